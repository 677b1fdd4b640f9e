theorem c_Fr_space1 {d : Nat} (hd : 1 ≤ d) {n : Nat} {z : Int} {h : Mh} {P : Out → Mh → Prop} (k1 : Kd h n = 6) (k2 : Mi h n 6 = 1) (k3 : Mi h n 11 = z) (z1 : 1 ≤ z) (z4 : z ≤ 4) (H : P (.inl (some (pI ((12 + z - 1) / z)))) h) : Ct kFr_space d [pR (some n)] h P := by
  refine eFr_space ?_
  repeat' (first | (with_reducible refine And.intro ?_ ?_) | (with_reducible intro _) | (exact Nat.le_of_ble_eq_true rfl) | (refine bFr_space_0 _ _ _ _ _ ?_; simp only [o_const, o_null, o_lconst, o_iload, o_aload, o_istore, o_astore, o_iinc, o_iadd, o_isub, o_imul, o_idiv, o_irem, o_ineg, o_i2l, o_lcmp, o_dup, o_dup2, o_goto, o_max, o_min, o_objinit, o_icmplt, o_iflt, o_icmpge, o_ifge, o_icmpgt, o_ifgt, o_icmple, o_ifle, o_icmpeq, o_ifeq, o_icmpne, o_ifne, o_ifnull, o_ifnonnull, o_acmpeq, o_acmpne, o_tsw, tsw, o_getI, o_getR, o_putI, o_putZ, o_putR, o_iald, o_bald, o_lald, o_aald, o_iast, o_bast, o_last, o_aast, o_alen, o_new, o_newa, o_iret, o_zret, o_aret, o_vret, o_throw, o_call, o_callV, o_aft_v, o_aft_n, o_aft_x, o_up_e, lget, lset, all1, dr_some, List.take_succ_cons, List.take_zero, List.drop_succ_cons, List.drop_zero, List.reverse_cons, List.reverse_nil, List.nil_append, List.cons_append, List.length_cons, List.length_nil, List.take_nil, List.drop_nil, true_and, and_true, false_and, and_false, true_implies, implies_true, false_implies, ne_eq, not_true_eq_false, not_false_eq_true, reduceCtorEq, Option.some.injEq, if_true, if_false, ite_true, ite_false, Nat.zero_add, eq_self, okn_some, okn_none, forall_const, true_or, or_true, false_or, or_false, Option.map_some, Option.map_none, Kd_setI, Ln_setI, Mr_setI, Kd_setR, Ln_setR, Mi_setR, Int.reduceNatCast', Int.reduceNeg, Int.reduceAdd, Int.reduceSub, Int.reduceMul, Int.reduceEq, Int.reduceNe, Int.reduceLT, Int.reduceLE, Nat.reduceAdd, Nat.reduceSub, Nat.reduceLT, Nat.reduceLeDiff, Nat.reduceEqDiff, Mi_setI, k1, k2, k3]) | (refine bFr_space_17 _ _ _ _ _ ?_; simp only [o_const, o_null, o_lconst, o_iload, o_aload, o_istore, o_astore, o_iinc, o_iadd, o_isub, o_imul, o_idiv, o_irem, o_ineg, o_i2l, o_lcmp, o_dup, o_dup2, o_goto, o_max, o_min, o_objinit, o_icmplt, o_iflt, o_icmpge, o_ifge, o_icmpgt, o_ifgt, o_icmple, o_ifle, o_icmpeq, o_ifeq, o_icmpne, o_ifne, o_ifnull, o_ifnonnull, o_acmpeq, o_acmpne, o_tsw, tsw, o_getI, o_getR, o_putI, o_putZ, o_putR, o_iald, o_bald, o_lald, o_aald, o_iast, o_bast, o_last, o_aast, o_alen, o_new, o_newa, o_iret, o_zret, o_aret, o_vret, o_throw, o_call, o_callV, o_aft_v, o_aft_n, o_aft_x, o_up_e, lget, lset, all1, dr_some, List.take_succ_cons, List.take_zero, List.drop_succ_cons, List.drop_zero, List.reverse_cons, List.reverse_nil, List.nil_append, List.cons_append, List.length_cons, List.length_nil, List.take_nil, List.drop_nil, true_and, and_true, false_and, and_false, true_implies, implies_true, false_implies, ne_eq, not_true_eq_false, not_false_eq_true, reduceCtorEq, Option.some.injEq, if_true, if_false, ite_true, ite_false, Nat.zero_add, eq_self, okn_some, okn_none, forall_const, true_or, or_true, false_or, or_false, Option.map_some, Option.map_none, Kd_setI, Ln_setI, Mr_setI, Kd_setR, Ln_setR, Mi_setR, Int.reduceNatCast', Int.reduceNeg, Int.reduceAdd, Int.reduceSub, Int.reduceMul, Int.reduceEq, Int.reduceNe, Int.reduceLT, Int.reduceLE, Nat.reduceAdd, Nat.reduceSub, Nat.reduceLT, Nat.reduceLeDiff, Nat.reduceEqDiff, Mi_setI, k1, k2, k3]) | (refine bFr_space_18 _ _ _ _ _ ?_; simp only [o_const, o_null, o_lconst, o_iload, o_aload, o_istore, o_astore, o_iinc, o_iadd, o_isub, o_imul, o_idiv, o_irem, o_ineg, o_i2l, o_lcmp, o_dup, o_dup2, o_goto, o_max, o_min, o_objinit, o_icmplt, o_iflt, o_icmpge, o_ifge, o_icmpgt, o_ifgt, o_icmple, o_ifle, o_icmpeq, o_ifeq, o_icmpne, o_ifne, o_ifnull, o_ifnonnull, o_acmpeq, o_acmpne, o_tsw, tsw, o_getI, o_getR, o_putI, o_putZ, o_putR, o_iald, o_bald, o_lald, o_aald, o_iast, o_bast, o_last, o_aast, o_alen, o_new, o_newa, o_iret, o_zret, o_aret, o_vret, o_throw, o_call, o_callV, o_aft_v, o_aft_n, o_aft_x, o_up_e, lget, lset, all1, dr_some, List.take_succ_cons, List.take_zero, List.drop_succ_cons, List.drop_zero, List.reverse_cons, List.reverse_nil, List.nil_append, List.cons_append, List.length_cons, List.length_nil, List.take_nil, List.drop_nil, true_and, and_true, false_and, and_false, true_implies, implies_true, false_implies, ne_eq, not_true_eq_false, not_false_eq_true, reduceCtorEq, Option.some.injEq, if_true, if_false, ite_true, ite_false, Nat.zero_add, eq_self, okn_some, okn_none, forall_const, true_or, or_true, false_or, or_false, Option.map_some, Option.map_none, Kd_setI, Ln_setI, Mr_setI, Kd_setR, Ln_setR, Mi_setR, Int.reduceNatCast', Int.reduceNeg, Int.reduceAdd, Int.reduceSub, Int.reduceMul, Int.reduceEq, Int.reduceNe, Int.reduceLT, Int.reduceLE, Nat.reduceAdd, Nat.reduceSub, Nat.reduceLT, Nat.reduceLeDiff, Nat.reduceEqDiff, Mi_setI, k1, k2, k3]) | (refine c_X_spaceOf z1 z4 ?_) | (simp only [o_const, o_null, o_lconst, o_iload, o_aload, o_istore, o_astore, o_iinc, o_iadd, o_isub, o_imul, o_idiv, o_irem, o_ineg, o_i2l, o_lcmp, o_dup, o_dup2, o_goto, o_max, o_min, o_objinit, o_icmplt, o_iflt, o_icmpge, o_ifge, o_icmpgt, o_ifgt, o_icmple, o_ifle, o_icmpeq, o_ifeq, o_icmpne, o_ifne, o_ifnull, o_ifnonnull, o_acmpeq, o_acmpne, o_tsw, tsw, o_getI, o_getR, o_putI, o_putZ, o_putR, o_iald, o_bald, o_lald, o_aald, o_iast, o_bast, o_last, o_aast, o_alen, o_new, o_newa, o_iret, o_zret, o_aret, o_vret, o_throw, o_call, o_callV, o_aft_v, o_aft_n, o_aft_x, o_up_e, lget, lset, all1, dr_some, List.take_succ_cons, List.take_zero, List.drop_succ_cons, List.drop_zero, List.reverse_cons, List.reverse_nil, List.nil_append, List.cons_append, List.length_cons, List.length_nil, List.take_nil, List.drop_nil, true_and, and_true, false_and, and_false, true_implies, implies_true, false_implies, ne_eq, not_true_eq_false, not_false_eq_true, reduceCtorEq, Option.some.injEq, if_true, if_false, ite_true, ite_false, Nat.zero_add, eq_self, okn_some, okn_none, forall_const, true_or, or_true, false_or, or_false, Option.map_some, Option.map_none, Kd_setI, Ln_setI, Mr_setI, Kd_setR, Ln_setR, Mi_setR, Int.reduceNatCast', Int.reduceNeg, Int.reduceAdd, Int.reduceSub, Int.reduceMul, Int.reduceEq, Int.reduceNe, Int.reduceLT, Int.reduceLE, Nat.reduceAdd, Nat.reduceSub, Nat.reduceLT, Nat.reduceLeDiff, Nat.reduceEqDiff, Mi_setI, k1, k2, k3]) | (unfold rng; omega) | omega)
  all_goals first | exact H | (exfalso; omega) | done
theorem c_Fa_storesFrom {d : Nat} (hd : 17 ≤ d) {c k : Int} (hc : 0 ≤ c ∧ c ≤ 511) (hk : 0 ≤ k ∧ k < 120) {A : AS} {h : Mh} {P : Out → Mh → Prop} {m : Int} (R : RC A h) (X : Stx A) (T : Tv c k A) (m0 : 0 ≤ m) (m1 : m < A 36 0 0) (hm : A 39 m 0 ≠ -1) (h40 : A 40 m 0 = 0)
    (H0 : ¬ roomy A m → P (.inl (some (pI 0))) h) (H1 : roomy A m → ∀ h', Sx h h' → RC (tsto A m) h' → P (.inl (some (pI 1))) h') : Ct kFa_storesFrom d [pR (some 16), pR (some (32000 + m.toNat))] h P := by
  have a36 := X.2.2.2.1
  have T' := T
  obtain ⟨V, I, F, J, oc, t1, t2, t3, t4, t5, t6⟩ := T'
  have G := X.2.2.2.2.2.2
  have ma := mach T m0 m1 hm
  obtain ⟨hP, hp18⟩ := plc_at T m0 m1 hm
  have mo := mach_obj R X T m0 m1 hm
  obtain ⟨f, ef⟩ : ∃ f, f = A 39 m 0 := ⟨_, rfl⟩
  obtain ⟨s, es⟩ : ∃ s, s = f / 16 := ⟨_, rfl⟩
  obtain ⟨p, ep⟩ : ∃ p, p = plc A f := ⟨_, rfl⟩
  obtain ⟨N, eN⟩ : ∃ N, N = cN s (A 105 s p) := ⟨_, rfl⟩
  have er : roomy A m ↔ costS A s ≤ A 35 0 0 - lft A 80 + (if A 32 f 0 = -1 then 0 else A 33 f 0) := by unfold roomy; rw [← ef, ← es]
  have et : tsto A m = up (up (up (tst1 A f 22) 32 f 0 (imv A s p)) 33 f 0 (costS A s)) 39 m 0 (-1) := by unfold tsto; rw [← ef, ← es, ← ep]
  rw [← ef] at hP hp18 mo ma
  rw [← es, ← ep] at hP hp18 mo
  rw [← eN] at mo
  have hs0 := hP.1
  have hs1 := hP.2.1
  obtain ⟨hS, b16, -, b17, o, -⟩ := at_place R G I hP
  have p16 : p < 16 := by have := hP.2.2.2; omega
  have s5 : s < 5 := by omega
  have gN := G.2.2.2.2.2.1 s p hs0 s5 hP.2.2.1 p16
  have hN : N = 20010 + 200 * s.toNat + 10 * (A 105 s p).toNat := by rw [eN]; rfl
  have hb : sN s = 20000 + 200 * s.toNat := rfl
  unfold FObj at o
  rw [← eN] at o
  have k1 := o.1
  have ko := o.2.1
  obtain ⟨y1, y2, y3, y4, y5⟩ := R.xm
  obtain ⟨z1, z2, z3, z4, z5, z6, z7, z8⟩ := y3 m m0 m1
  obtain ⟨⟨ks, -⟩, ⟨-, -, -, -, ks8, -⟩, -⟩ := R.xs.1 s hs0 hs1
  have yk := (R.xk s p hs0 hs1 hP.2.2.1 p16).2 hP.2.2.2
  rw [← eN, hp18] at yk
  have hu := R.xu
  unfold RCu at hu
  have hl := lft_le F 80 (by omega)
  have ff := F f ma.1.1 ma.1.2.1
  have i28 := I.2.2.1 s hs0 s5
  have i28' := (I.2.2.2.1 s hs0 hs1).2
  have b35 := J.2.2.1
  have b35' := J.2.2.2.1
  have y16 := y1.1
  have y158 := y1.2.2.2.1
  have yr := y2.2.2.1
  have kc := R.xc.1.1
  obtain ⟨co, eco⟩ : ∃ co, co = (if A 32 f 0 = -1 then 0 else A 33 f 0) := ⟨_, rfl⟩
  have bco : 0 ≤ co ∧ co ≤ 12 := by rw [eco]; split <;> omega
  have bcs := costS_rng (A := A) (s := s) ⟨i28', by omega⟩
  obtain ⟨cs, ecs⟩ : ∃ cs, cs = costS A s := ⟨_, rfl⟩
  have ecs2 : (12 + A 28 s 0 - 1) / A 28 s 0 = cs := by rw [ecs]; rfl
  rw [← ecs, ← eco] at er
  rw [← ecs] at et bcs
  -- where the frame is
  have KP := fun (Q : Out → Mh → Prop) (HH : Q (.inl (some (pI p))) h) => c_S_placeNamed (d := d - 1) (P := Q) (nm := A 21 f 0) R G I hS (fun r hr => by
    have : r = p := by
      rcases hr with ⟨-, b⟩ | ⟨r0, r1, r2⟩
      · exact absurd (by rw [hp18]) (b p hP.2.2.1 hP.2.2.2)
      · rw [← hp18] at r2
        rcases Int.lt_trichotomy r p with w | w | w
        · exact absurd r2 (I.2.2.2.2.2.2.1 s r p hs0 s5 r0 w hP.2.2.2).2
        · exact w
        · exact absurd r2.symm (I.2.2.2.2.2.2.1 s p r hs0 s5 hP.2.2.1 w r1).2
    rw [this]; exact HH)
  have KS := fun (Q : Out → Mh → Prop) (HH) => c_Fr_space (d := d - 1) (P := Q) (by omega) R I F G hP HH
  rw [hp18, ← eN, ← eco] at KS
  -- the image
  have KI := fun (Q : Out → Mh → Prop) (HH) => c_Ca_imageOf (d := d - 1) (P := Q) (q := 1) (by omega) R X I (Or.inr rfl) hP oc t3 (by omega) t5 (by omega) HH
  have hC := ims_cst (q := 1) V I hP oc 4 (by omega)
  obtain ⟨C, eC⟩ : ∃ C, C = ims A 1 s p := ⟨_, rfl⟩
  have hC' : BEq A C := by rw [eC]; exact hC.1
  have iv := imv_rng V I hP
  rw [← eC] at KI
  have eg : ∀ g, g ∉ [54, 56, 57, 58] → C g = A g := fun g hg => hC' g (fun q => hg (by rw [q]; decide)) (fun q => hg (by rw [q]; decide)) (fun q => hg (by rw [q]; decide)) (fun q => hg (by rw [q]; decide))
  have XC : Stx C := X.beq hC'
  have IC : IvS c C := I.beq hC'
  have hPC : isP C s p := isP_of hP (eg 16 (by decide)) (eg 17 (by decide))
  have JC : IvM (c + 1) C := J.of (fun g hg => eg g (fun q => by revert hg q; simp only [LM, List.mem_cons, List.not_mem_nil, or_false]; omega))
  have c18 : C 18 s p = f := by rw [eg 18 (by decide)]; exact hp18
  have c105 : C 105 = A 105 := eg 105 (by decide)
  have KK : ∀ (h1 : Mh) (Q : Out → Mh → Prop), RC C h1 → (∀ h2, Kep C h1 h2 s p (imv A s p) → (∀ l, 0 ≤ l → l < 16 → Mi h2 (cN s (C 105 s p) + 4) l = chn C s l p) → Q (.inl none) h2) → Ct kSh_keepImage (d - 1) [pR (some (sN s)), pI p, pI (imv A s p)] h1 Q := fun h1 Q R1 HH => c_Sh_keepImage (by omega) R1 XC IC hPC (by omega) HH
  -- the state behind it
  obtain ⟨B, eB⟩ : ∃ B, B = up (up (tst1 A f 22) 32 f 0 (imv A s p)) 33 f 0 cs := ⟨_, rfl⟩
  rw [← eB] at et
  have eBg : ∀ g, g ∉ [32, 33, 34] → B g = C g := fun g hg => by
    rw [eB, eC]; funext i j
    rw [up_f (fun q => hg (by rw [q]; decide)), up_f (fun q => hg (by rw [q]; decide))]
    unfold tst1
    rw [upr_f (fun q => hg (by rw [q]; decide)), ← es, ← ep]
  have eBo : ∀ g t, t ≠ f → B g t = C g t := fun g t ht => by
    rw [eB, eC]; funext j
    unfold up tst1 upr
    rw [if_neg (fun q => ht q.2.1), if_neg (fun q => ht q.2.1), if_neg (fun q => ht q.2), ← es, ← ep]
  have b32 : B 32 f 0 = imv A s p := by rw [eB, up_f (by decide), up_s]
  have b33 : B 33 f 0 = cs := by rw [eB, up_s]
  have b34 : ∀ j, 0 ≤ j → j < 22 → B 34 f j = nowv A s p j := fun j j0 j1 => by
    rw [eB, up_f (by decide), up_f (by decide)]
    unfold tst1
    rw [upr_at, if_pos rfl, if_pos ⟨j0, j1⟩, ← es, ← ep]
  have e39 : up B 39 m 0 (-1) = tsto A m := by rw [et]
  have hlB : lft B 80 = lft A 80 - co + cs := by
    have := lft_up (A := A) (B := B) (f := f) (fun i hi => by rw [eBo 32 i hi, eg 32 (by decide)]) (fun i hi => by rw [eBo 33 i hi, eg 33 (by decide)]) ma.1.1 80 (by have := ma.1.2.1; omega)
    have hne : imv A s p ≠ -1 := by omega
    rw [this, b32, b33, if_neg hne, ← eco]
  have ech : ∀ l, chn C s l p = chn A s l p := fun l => chn_beq hC'
  have KF : roomy A m → ∀ (h1 h2 : Mh), Sx h h1 → RC C h1 → Kep C h1 h2 s p (imv A s p) → (∀ l, 0 ≤ l → l < 16 → Mi h2 (cN s (C 105 s p) + 4) l = chn C s l p) → P (.inl (some (pI 1))) (setI (setI (setR (setI h2 16 5 (lft A 80 - co + cs)) (32000 + m.toNat) 3 none) (32000 + m.toNat) 4 0) N 4 0) ∧ Kd h2 N = 6 ∧ Mi h2 N 6 = 1 ∧ Mi h2 N 11 = A 28 s 0 ∧ Kd h2 16 = 5 ∧ Kd h2 (32000 + m.toNat) = 7 := fun hr h1 h2 s1 R1 K L => by
    obtain ⟨j1, j2, j3, j4, j5, j6⟩ := K
    rw [c105, ← eN] at j3 j4 j5 j6 L
    have kk : Kd h1 N = 6 := by
      have := (at_place R1 XC.2.2.2.2.2.2 IC hPC).2.2.2.2.1.1
      rw [c105, ← eN] at this; exact this
    have q16 : Kd h1 16 = 5 := R1.xm.1.1
    have q7 : Kd h1 (32000 + m.toNat) = 7 := (R1.xm.2.2.1 m m0 (by rw [eg 36 (by decide)]; exact m1)).2.1
    refine ⟨?_, by rw [j1]; exact kk, by rw [j5, if_neg (by decide), if_neg (by decide), if_neg (by decide), if_pos rfl], by rw [j5, if_pos rfl, eg 28 (by decide)], by rw [j1]; exact q16, by rw [j1]; exact q7⟩
    have R2 : RC B (setI h2 16 5 (lft A 80 - co + cs)) := by
      refine R1.img XC IC hPC (fun g hg => eBg g hg) (fun g t ht => eBo g t (by rw [c18] at ht; exact ht)) j1 j2 (fun n hn => by rw [c105, ← eN] at hn; exact j3 n hn) (fun n n1 n2 n3 => by
        rw [c105, ← eN] at n2 n3
        funext i; rw [Mi_setI, if_neg (fun q => n1 q.1), j4 n n2 n3]) (fun i hi => by rw [Mi_setI, if_neg (fun q => hi q.2), j4 16 (by omega) (by omega)]) (fun i hi => ?_) ?_ ?_ ?_ ?_ ?_ ?_ ?_
      · rw [c105, ← eN, Mi_setI, if_neg (by omega), j5, if_neg (by omega), if_neg (by omega), if_neg (by omega), if_neg (by omega)]
      · rw [c105, ← eN, Mi_setI, if_neg (by omega), j5, if_neg (by decide), if_neg (by decide), if_neg (by decide), if_pos rfl]
      · rw [c105, ← eN, c18, Mi_setI, if_neg (by omega), j5, if_neg (by decide), if_neg (by decide), if_pos rfl, b32]
      · rw [c18, b32]; omega
      · rw [c105, ← eN, c18, Mi_setI, if_neg (by omega), j5, if_neg (by decide), if_pos rfl, b34 20 (by decide) (by decide), eg 27 (by decide)]; rfl
      · rw [c105, ← eN, c18, Mi_setI, if_neg (by omega), j5, if_pos rfl, b34 21 (by decide) (by decide), eg 28 (by decide)]; rfl
      · intro i i0 i1
        rw [c105, ← eN, c18, b34 i i0 (by omega), nowv_pin i1]
        refine ⟨by have := j6 i i0 i1; rw [eg 22 (by decide)] at this; exact this, fun w l l0 l1 => ?_⟩
        rw [Mi_setI, if_neg (by omega), b34 _ (by omega) (by omega), nowv_ch i0 i1 l0 l1, if_neg w, L _ (by omega) (by omega), ech]
      · rw [Mi_setI, if_pos ⟨rfl, rfl⟩, hlB]
    have XB : Stx B := tv_stx XC (fun g hg => eBg g (fun q => hg (by revert q; simp only [List.mem_cons, List.not_mem_nil, or_false]; omega)))
    have IB : IvS c B := IC.of (fun g hg => eBg g (fun q => by revert hg q; simp only [LSh, List.mem_cons, List.not_mem_nil, or_false]; omega))
    have JB : IvM (c + 1) B := JC.of (fun g hg => eBg g (fun q => by revert hg q; simp only [LM, List.mem_cons, List.not_mem_nil, or_false]; omega))
    have hPB : isP B s p := isP_of hPC (eBg 16 (by decide)) (eBg 17 (by decide))
    have B36 : B 36 = A 36 := by rw [eBg 36 (by decide), eg 36 (by decide)]
    have R3 := R2.mgo XB IB JB hPB m0 (by rw [B36]; exact m1) (by rw [eBg 39 (by decide), eg 39 (by decide), eBg 18 (by decide), c18, ef]) (by rw [eBg 40 (by decide), eg 40 (by decide)]; exact h40) rfl
    rw [e39, eBg 105 (by decide), c105, ← eN] at R3
    refine H1 hr _ ?_ R3
    have s2 : Sx h1 h2 := fun n n2 nr => ⟨by rw [j1], by rw [j2], j4 n (by omega) (by omega), j3 n (by omega)⟩
    exact (((((s1.trans s2).setI (by omega)).setR (by omega)).setI (by omega)).setI (by omega))
  have KQ : ∀ h1, RC C h1 → Kd h1 (sN s) = 9 := fun h1 R1 => (R1.xs.1 s hs0 (by rw [eg 16 (by decide)]; exact hs1)).1.1
  have K0 : A 35 0 0 < lft A 80 - co + cs → P (.inl (some (pI 0))) h := fun w => H0 (fun q => by rw [er] at q; omega)
  have KF' := fun (w : lft A 80 - co + cs ≤ A 35 0 0) => KF (er.2 (by omega))
  have i28a : A 28 s 0 ≤ 4 := i28.2.2.2.2.2.2.2.2.2.1
  have p0 := hP.2.2.1
  obtain ⟨lf, elf⟩ : ∃ x, x = lft A 80 := ⟨_, rfl⟩
  have n15 : (15 : Nat) ≠ 0 := by decide
  rw [← elf] at hu hl K0 KF'
  obtain ⟨hl0, hl1⟩ := hl
  obtain ⟨bco0, bco1⟩ := bco
  obtain ⟨bcs0, bcs1⟩ := bcs
  clear H0 H1 KF T ma y3 y4 y5 er et F ff V oc hC J JC X XC IC I i28 t1 t2 t3 t4 t5 t6 eBg eBo eg b34 R
  refine eFa_storesFrom ?_
  repeat' (first | (with_reducible refine And.intro ?_ ?_) | (with_reducible intro _) | (exact Nat.le_of_ble_eq_true rfl) | (refine bFa_storesFrom_0 _ _ _ _ _ ?_; simp only [o_const, o_null, o_lconst, o_iload, o_aload, o_istore, o_astore, o_iinc, o_iadd, o_isub, o_imul, o_idiv, o_irem, o_ineg, o_i2l, o_lcmp, o_dup, o_dup2, o_goto, o_max, o_min, o_objinit, o_icmplt, o_iflt, o_icmpge, o_ifge, o_icmpgt, o_ifgt, o_icmple, o_ifle, o_icmpeq, o_ifeq, o_icmpne, o_ifne, o_ifnull, o_ifnonnull, o_acmpeq, o_acmpne, o_tsw, tsw, o_getI, o_getR, o_putI, o_putZ, o_putR, o_iald, o_bald, o_lald, o_aald, o_iast, o_bast, o_last, o_aast, o_alen, o_new, o_newa, o_iret, o_zret, o_aret, o_vret, o_throw, o_call, o_callV, o_aft_v, o_aft_n, o_aft_x, o_up_e, lget, lset, all1, dr_some, List.take_succ_cons, List.take_zero, List.drop_succ_cons, List.drop_zero, List.reverse_cons, List.reverse_nil, List.nil_append, List.cons_append, List.length_cons, List.length_nil, List.take_nil, List.drop_nil, true_and, and_true, false_and, and_false, true_implies, implies_true, false_implies, ne_eq, not_true_eq_false, not_false_eq_true, reduceCtorEq, Option.some.injEq, if_true, if_false, ite_true, ite_false, Nat.zero_add, eq_self, okn_some, okn_none, forall_const, true_or, or_true, false_or, or_false, Option.map_some, Option.map_none, Kd_setI, Ln_setI, Mr_setI, Kd_setR, Ln_setR, Mi_setR, Int.reduceNatCast', Int.reduceNeg, Int.reduceAdd, Int.reduceSub, Int.reduceMul, Int.reduceEq, Int.reduceNe, Int.reduceLT, Int.reduceLE, Nat.reduceAdd, Nat.reduceSub, Nat.reduceLT, Nat.reduceLeDiff, Nat.reduceEqDiff, Mi_setI, z2, mo, k1, ko, ks, yk, y16, hu, yr, ks8, y158, kc]) | (refine bFa_storesFrom_11 _ _ _ _ _ ?_; simp only [o_const, o_null, o_lconst, o_iload, o_aload, o_istore, o_astore, o_iinc, o_iadd, o_isub, o_imul, o_idiv, o_irem, o_ineg, o_i2l, o_lcmp, o_dup, o_dup2, o_goto, o_max, o_min, o_objinit, o_icmplt, o_iflt, o_icmpge, o_ifge, o_icmpgt, o_ifgt, o_icmple, o_ifle, o_icmpeq, o_ifeq, o_icmpne, o_ifne, o_ifnull, o_ifnonnull, o_acmpeq, o_acmpne, o_tsw, tsw, o_getI, o_getR, o_putI, o_putZ, o_putR, o_iald, o_bald, o_lald, o_aald, o_iast, o_bast, o_last, o_aast, o_alen, o_new, o_newa, o_iret, o_zret, o_aret, o_vret, o_throw, o_call, o_callV, o_aft_v, o_aft_n, o_aft_x, o_up_e, lget, lset, all1, dr_some, List.take_succ_cons, List.take_zero, List.drop_succ_cons, List.drop_zero, List.reverse_cons, List.reverse_nil, List.nil_append, List.cons_append, List.length_cons, List.length_nil, List.take_nil, List.drop_nil, true_and, and_true, false_and, and_false, true_implies, implies_true, false_implies, ne_eq, not_true_eq_false, not_false_eq_true, reduceCtorEq, Option.some.injEq, if_true, if_false, ite_true, ite_false, Nat.zero_add, eq_self, okn_some, okn_none, forall_const, true_or, or_true, false_or, or_false, Option.map_some, Option.map_none, Kd_setI, Ln_setI, Mr_setI, Kd_setR, Ln_setR, Mi_setR, Int.reduceNatCast', Int.reduceNeg, Int.reduceAdd, Int.reduceSub, Int.reduceMul, Int.reduceEq, Int.reduceNe, Int.reduceLT, Int.reduceLE, Nat.reduceAdd, Nat.reduceSub, Nat.reduceLT, Nat.reduceLeDiff, Nat.reduceEqDiff, Mi_setI, z2, mo, k1, ko, ks, yk, y16, hu, yr, ks8, y158, kc]) | (refine bFa_storesFrom_60 _ _ _ _ _ ?_; simp only [o_const, o_null, o_lconst, o_iload, o_aload, o_istore, o_astore, o_iinc, o_iadd, o_isub, o_imul, o_idiv, o_irem, o_ineg, o_i2l, o_lcmp, o_dup, o_dup2, o_goto, o_max, o_min, o_objinit, o_icmplt, o_iflt, o_icmpge, o_ifge, o_icmpgt, o_ifgt, o_icmple, o_ifle, o_icmpeq, o_ifeq, o_icmpne, o_ifne, o_ifnull, o_ifnonnull, o_acmpeq, o_acmpne, o_tsw, tsw, o_getI, o_getR, o_putI, o_putZ, o_putR, o_iald, o_bald, o_lald, o_aald, o_iast, o_bast, o_last, o_aast, o_alen, o_new, o_newa, o_iret, o_zret, o_aret, o_vret, o_throw, o_call, o_callV, o_aft_v, o_aft_n, o_aft_x, o_up_e, lget, lset, all1, dr_some, List.take_succ_cons, List.take_zero, List.drop_succ_cons, List.drop_zero, List.reverse_cons, List.reverse_nil, List.nil_append, List.cons_append, List.length_cons, List.length_nil, List.take_nil, List.drop_nil, true_and, and_true, false_and, and_false, true_implies, implies_true, false_implies, ne_eq, not_true_eq_false, not_false_eq_true, reduceCtorEq, Option.some.injEq, if_true, if_false, ite_true, ite_false, Nat.zero_add, eq_self, okn_some, okn_none, forall_const, true_or, or_true, false_or, or_false, Option.map_some, Option.map_none, Kd_setI, Ln_setI, Mr_setI, Kd_setR, Ln_setR, Mi_setR, Int.reduceNatCast', Int.reduceNeg, Int.reduceAdd, Int.reduceSub, Int.reduceMul, Int.reduceEq, Int.reduceNe, Int.reduceLT, Int.reduceLE, Nat.reduceAdd, Nat.reduceSub, Nat.reduceLT, Nat.reduceLeDiff, Nat.reduceEqDiff, Mi_setI, z2, mo, k1, ko, ks, yk, y16, hu, yr, ks8, y158, kc]) | (refine bFa_storesFrom_62 _ _ _ _ _ ?_; simp only [o_const, o_null, o_lconst, o_iload, o_aload, o_istore, o_astore, o_iinc, o_iadd, o_isub, o_imul, o_idiv, o_irem, o_ineg, o_i2l, o_lcmp, o_dup, o_dup2, o_goto, o_max, o_min, o_objinit, o_icmplt, o_iflt, o_icmpge, o_ifge, o_icmpgt, o_ifgt, o_icmple, o_ifle, o_icmpeq, o_ifeq, o_icmpne, o_ifne, o_ifnull, o_ifnonnull, o_acmpeq, o_acmpne, o_tsw, tsw, o_getI, o_getR, o_putI, o_putZ, o_putR, o_iald, o_bald, o_lald, o_aald, o_iast, o_bast, o_last, o_aast, o_alen, o_new, o_newa, o_iret, o_zret, o_aret, o_vret, o_throw, o_call, o_callV, o_aft_v, o_aft_n, o_aft_x, o_up_e, lget, lset, all1, dr_some, List.take_succ_cons, List.take_zero, List.drop_succ_cons, List.drop_zero, List.reverse_cons, List.reverse_nil, List.nil_append, List.cons_append, List.length_cons, List.length_nil, List.take_nil, List.drop_nil, true_and, and_true, false_and, and_false, true_implies, implies_true, false_implies, ne_eq, not_true_eq_false, not_false_eq_true, reduceCtorEq, Option.some.injEq, if_true, if_false, ite_true, ite_false, Nat.zero_add, eq_self, okn_some, okn_none, forall_const, true_or, or_true, false_or, or_false, Option.map_some, Option.map_none, Kd_setI, Ln_setI, Mr_setI, Kd_setR, Ln_setR, Mi_setR, Int.reduceNatCast', Int.reduceNeg, Int.reduceAdd, Int.reduceSub, Int.reduceMul, Int.reduceEq, Int.reduceNe, Int.reduceLT, Int.reduceLE, Nat.reduceAdd, Nat.reduceSub, Nat.reduceLT, Nat.reduceLeDiff, Nat.reduceEqDiff, Mi_setI, z2, mo, k1, ko, ks, yk, y16, hu, yr, ks8, y158, kc]) | (refine KP _ ?_) | (refine KS _ ?_) | (refine c_X_spaceOf i28' i28a ?_) | (rw [ecs2]) | (refine KI _ (fun h1 s1 R1 => ?_)) | (refine KK h1 _ R1 (fun h2 K2 L2 => ?_)) | (exact KQ h1 R1) | (simp only [o_const, o_null, o_lconst, o_iload, o_aload, o_istore, o_astore, o_iinc, o_iadd, o_isub, o_imul, o_idiv, o_irem, o_ineg, o_i2l, o_lcmp, o_dup, o_dup2, o_goto, o_max, o_min, o_objinit, o_icmplt, o_iflt, o_icmpge, o_ifge, o_icmpgt, o_ifgt, o_icmple, o_ifle, o_icmpeq, o_ifeq, o_icmpne, o_ifne, o_ifnull, o_ifnonnull, o_acmpeq, o_acmpne, o_tsw, tsw, o_getI, o_getR, o_putI, o_putZ, o_putR, o_iald, o_bald, o_lald, o_aald, o_iast, o_bast, o_last, o_aast, o_alen, o_new, o_newa, o_iret, o_zret, o_aret, o_vret, o_throw, o_call, o_callV, o_aft_v, o_aft_n, o_aft_x, o_up_e, lget, lset, all1, dr_some, List.take_succ_cons, List.take_zero, List.drop_succ_cons, List.drop_zero, List.reverse_cons, List.reverse_nil, List.nil_append, List.cons_append, List.length_cons, List.length_nil, List.take_nil, List.drop_nil, true_and, and_true, false_and, and_false, true_implies, implies_true, false_implies, ne_eq, not_true_eq_false, not_false_eq_true, reduceCtorEq, Option.some.injEq, if_true, if_false, ite_true, ite_false, Nat.zero_add, eq_self, okn_some, okn_none, forall_const, true_or, or_true, false_or, or_false, Option.map_some, Option.map_none, Kd_setI, Ln_setI, Mr_setI, Kd_setR, Ln_setR, Mi_setR, Int.reduceNatCast', Int.reduceNeg, Int.reduceAdd, Int.reduceSub, Int.reduceMul, Int.reduceEq, Int.reduceNe, Int.reduceLT, Int.reduceLE, Nat.reduceAdd, Nat.reduceSub, Nat.reduceLT, Nat.reduceLeDiff, Nat.reduceEqDiff, Mi_setI, z2, mo, k1, ko, ks, yk, y16, hu, yr, ks8, y158, kc]) | (unfold rng; omega) | omega)
  all_goals try (
    have xx := KF' (by omega) h1 h2 s1 R1 K2 L2
    obtain ⟨x9, x1, x2, x3, x4, x5⟩ := xx)
  all_goals try repeat' (first | (with_reducible refine And.intro ?_ ?_) | (with_reducible intro _) | (exact Nat.le_of_ble_eq_true rfl) | (refine bFa_storesFrom_0 _ _ _ _ _ ?_; simp only [o_const, o_null, o_lconst, o_iload, o_aload, o_istore, o_astore, o_iinc, o_iadd, o_isub, o_imul, o_idiv, o_irem, o_ineg, o_i2l, o_lcmp, o_dup, o_dup2, o_goto, o_max, o_min, o_objinit, o_icmplt, o_iflt, o_icmpge, o_ifge, o_icmpgt, o_ifgt, o_icmple, o_ifle, o_icmpeq, o_ifeq, o_icmpne, o_ifne, o_ifnull, o_ifnonnull, o_acmpeq, o_acmpne, o_tsw, tsw, o_getI, o_getR, o_putI, o_putZ, o_putR, o_iald, o_bald, o_lald, o_aald, o_iast, o_bast, o_last, o_aast, o_alen, o_new, o_newa, o_iret, o_zret, o_aret, o_vret, o_throw, o_call, o_callV, o_aft_v, o_aft_n, o_aft_x, o_up_e, lget, lset, all1, dr_some, List.take_succ_cons, List.take_zero, List.drop_succ_cons, List.drop_zero, List.reverse_cons, List.reverse_nil, List.nil_append, List.cons_append, List.length_cons, List.length_nil, List.take_nil, List.drop_nil, true_and, and_true, false_and, and_false, true_implies, implies_true, false_implies, ne_eq, not_true_eq_false, not_false_eq_true, reduceCtorEq, Option.some.injEq, if_true, if_false, ite_true, ite_false, Nat.zero_add, eq_self, okn_some, okn_none, forall_const, true_or, or_true, false_or, or_false, Option.map_some, Option.map_none, Kd_setI, Ln_setI, Mr_setI, Kd_setR, Ln_setR, Mi_setR, Int.reduceNatCast', Int.reduceNeg, Int.reduceAdd, Int.reduceSub, Int.reduceMul, Int.reduceEq, Int.reduceNe, Int.reduceLT, Int.reduceLE, Nat.reduceAdd, Nat.reduceSub, Nat.reduceLT, Nat.reduceLeDiff, Nat.reduceEqDiff, Mi_setI, x1, x4, x5]) | (refine bFa_storesFrom_11 _ _ _ _ _ ?_; simp only [o_const, o_null, o_lconst, o_iload, o_aload, o_istore, o_astore, o_iinc, o_iadd, o_isub, o_imul, o_idiv, o_irem, o_ineg, o_i2l, o_lcmp, o_dup, o_dup2, o_goto, o_max, o_min, o_objinit, o_icmplt, o_iflt, o_icmpge, o_ifge, o_icmpgt, o_ifgt, o_icmple, o_ifle, o_icmpeq, o_ifeq, o_icmpne, o_ifne, o_ifnull, o_ifnonnull, o_acmpeq, o_acmpne, o_tsw, tsw, o_getI, o_getR, o_putI, o_putZ, o_putR, o_iald, o_bald, o_lald, o_aald, o_iast, o_bast, o_last, o_aast, o_alen, o_new, o_newa, o_iret, o_zret, o_aret, o_vret, o_throw, o_call, o_callV, o_aft_v, o_aft_n, o_aft_x, o_up_e, lget, lset, all1, dr_some, List.take_succ_cons, List.take_zero, List.drop_succ_cons, List.drop_zero, List.reverse_cons, List.reverse_nil, List.nil_append, List.cons_append, List.length_cons, List.length_nil, List.take_nil, List.drop_nil, true_and, and_true, false_and, and_false, true_implies, implies_true, false_implies, ne_eq, not_true_eq_false, not_false_eq_true, reduceCtorEq, Option.some.injEq, if_true, if_false, ite_true, ite_false, Nat.zero_add, eq_self, okn_some, okn_none, forall_const, true_or, or_true, false_or, or_false, Option.map_some, Option.map_none, Kd_setI, Ln_setI, Mr_setI, Kd_setR, Ln_setR, Mi_setR, Int.reduceNatCast', Int.reduceNeg, Int.reduceAdd, Int.reduceSub, Int.reduceMul, Int.reduceEq, Int.reduceNe, Int.reduceLT, Int.reduceLE, Nat.reduceAdd, Nat.reduceSub, Nat.reduceLT, Nat.reduceLeDiff, Nat.reduceEqDiff, Mi_setI, x1, x4, x5]) | (refine bFa_storesFrom_60 _ _ _ _ _ ?_; simp only [o_const, o_null, o_lconst, o_iload, o_aload, o_istore, o_astore, o_iinc, o_iadd, o_isub, o_imul, o_idiv, o_irem, o_ineg, o_i2l, o_lcmp, o_dup, o_dup2, o_goto, o_max, o_min, o_objinit, o_icmplt, o_iflt, o_icmpge, o_ifge, o_icmpgt, o_ifgt, o_icmple, o_ifle, o_icmpeq, o_ifeq, o_icmpne, o_ifne, o_ifnull, o_ifnonnull, o_acmpeq, o_acmpne, o_tsw, tsw, o_getI, o_getR, o_putI, o_putZ, o_putR, o_iald, o_bald, o_lald, o_aald, o_iast, o_bast, o_last, o_aast, o_alen, o_new, o_newa, o_iret, o_zret, o_aret, o_vret, o_throw, o_call, o_callV, o_aft_v, o_aft_n, o_aft_x, o_up_e, lget, lset, all1, dr_some, List.take_succ_cons, List.take_zero, List.drop_succ_cons, List.drop_zero, List.reverse_cons, List.reverse_nil, List.nil_append, List.cons_append, List.length_cons, List.length_nil, List.take_nil, List.drop_nil, true_and, and_true, false_and, and_false, true_implies, implies_true, false_implies, ne_eq, not_true_eq_false, not_false_eq_true, reduceCtorEq, Option.some.injEq, if_true, if_false, ite_true, ite_false, Nat.zero_add, eq_self, okn_some, okn_none, forall_const, true_or, or_true, false_or, or_false, Option.map_some, Option.map_none, Kd_setI, Ln_setI, Mr_setI, Kd_setR, Ln_setR, Mi_setR, Int.reduceNatCast', Int.reduceNeg, Int.reduceAdd, Int.reduceSub, Int.reduceMul, Int.reduceEq, Int.reduceNe, Int.reduceLT, Int.reduceLE, Nat.reduceAdd, Nat.reduceSub, Nat.reduceLT, Nat.reduceLeDiff, Nat.reduceEqDiff, Mi_setI, x1, x4, x5]) | (refine bFa_storesFrom_62 _ _ _ _ _ ?_; simp only [o_const, o_null, o_lconst, o_iload, o_aload, o_istore, o_astore, o_iinc, o_iadd, o_isub, o_imul, o_idiv, o_irem, o_ineg, o_i2l, o_lcmp, o_dup, o_dup2, o_goto, o_max, o_min, o_objinit, o_icmplt, o_iflt, o_icmpge, o_ifge, o_icmpgt, o_ifgt, o_icmple, o_ifle, o_icmpeq, o_ifeq, o_icmpne, o_ifne, o_ifnull, o_ifnonnull, o_acmpeq, o_acmpne, o_tsw, tsw, o_getI, o_getR, o_putI, o_putZ, o_putR, o_iald, o_bald, o_lald, o_aald, o_iast, o_bast, o_last, o_aast, o_alen, o_new, o_newa, o_iret, o_zret, o_aret, o_vret, o_throw, o_call, o_callV, o_aft_v, o_aft_n, o_aft_x, o_up_e, lget, lset, all1, dr_some, List.take_succ_cons, List.take_zero, List.drop_succ_cons, List.drop_zero, List.reverse_cons, List.reverse_nil, List.nil_append, List.cons_append, List.length_cons, List.length_nil, List.take_nil, List.drop_nil, true_and, and_true, false_and, and_false, true_implies, implies_true, false_implies, ne_eq, not_true_eq_false, not_false_eq_true, reduceCtorEq, Option.some.injEq, if_true, if_false, ite_true, ite_false, Nat.zero_add, eq_self, okn_some, okn_none, forall_const, true_or, or_true, false_or, or_false, Option.map_some, Option.map_none, Kd_setI, Ln_setI, Mr_setI, Kd_setR, Ln_setR, Mi_setR, Int.reduceNatCast', Int.reduceNeg, Int.reduceAdd, Int.reduceSub, Int.reduceMul, Int.reduceEq, Int.reduceNe, Int.reduceLT, Int.reduceLE, Nat.reduceAdd, Nat.reduceSub, Nat.reduceLT, Nat.reduceLeDiff, Nat.reduceEqDiff, Mi_setI, x1, x4, x5]) | (refine c_Fr_space1 (by omega) x1 x2 x3 i28' i28a ?_) | (rw [ecs2]) | (refine c_Ma_letGo x5 ?_) | (simp only [o_const, o_null, o_lconst, o_iload, o_aload, o_istore, o_astore, o_iinc, o_iadd, o_isub, o_imul, o_idiv, o_irem, o_ineg, o_i2l, o_lcmp, o_dup, o_dup2, o_goto, o_max, o_min, o_objinit, o_icmplt, o_iflt, o_icmpge, o_ifge, o_icmpgt, o_ifgt, o_icmple, o_ifle, o_icmpeq, o_ifeq, o_icmpne, o_ifne, o_ifnull, o_ifnonnull, o_acmpeq, o_acmpne, o_tsw, tsw, o_getI, o_getR, o_putI, o_putZ, o_putR, o_iald, o_bald, o_lald, o_aald, o_iast, o_bast, o_last, o_aast, o_alen, o_new, o_newa, o_iret, o_zret, o_aret, o_vret, o_throw, o_call, o_callV, o_aft_v, o_aft_n, o_aft_x, o_up_e, lget, lset, all1, dr_some, List.take_succ_cons, List.take_zero, List.drop_succ_cons, List.drop_zero, List.reverse_cons, List.reverse_nil, List.nil_append, List.cons_append, List.length_cons, List.length_nil, List.take_nil, List.drop_nil, true_and, and_true, false_and, and_false, true_implies, implies_true, false_implies, ne_eq, not_true_eq_false, not_false_eq_true, reduceCtorEq, Option.some.injEq, if_true, if_false, ite_true, ite_false, Nat.zero_add, eq_self, okn_some, okn_none, forall_const, true_or, or_true, false_or, or_false, Option.map_some, Option.map_none, Kd_setI, Ln_setI, Mr_setI, Kd_setR, Ln_setR, Mi_setR, Int.reduceNatCast', Int.reduceNeg, Int.reduceAdd, Int.reduceSub, Int.reduceMul, Int.reduceEq, Int.reduceNe, Int.reduceLT, Int.reduceLE, Nat.reduceAdd, Nat.reduceSub, Nat.reduceLT, Nat.reduceLeDiff, Nat.reduceEqDiff, Mi_setI, x1, x4, x5]) | (unfold rng; omega) | omega)
  all_goals first | exact x9 | exact K0 (by omega) | (exfalso; omega) | done
