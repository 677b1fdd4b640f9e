-- the constructors of the cache, of the farm and of the class
theorem c_Ca_init {d : Nat} (hd : 1 ≤ d) {h : Mh} {P : Out → Mh → Prop} (fr : ∀ n, 17 ≤ n → n < 300 → Kd h n = 0)
    (H : ∀ h', (∀ m, m ≠ 15 → m < 17 ∨ 20 < m → m < 100 ∨ 159 < m → m < 200 ∨ 204 < m → Sam h h' m) → (Kd h' 15 = 2 ∧ Mr h' 15 0 = some 17 ∧ Mr h' 15 1 = some 18 ∧ Mr h' 15 2 = some 19 ∧ Mr h' 15 7 = some 20 ∧ Kd h' 17 = 39 ∧ Ln h' 17 = 60 ∧ Kd h' 18 = 24 ∧ Ln h' 18 = 60 ∧ Kd h' 19 = 21 ∧ Ln h' 19 = 60 ∧ Kd h' 20 = 24 ∧ Ln h' 20 = 5) →
      (∀ i : Int, 0 ≤ i → i < 60 → Mr h' 18 i = some (100 + i.toNat) ∧ Kd h' (100 + i.toNat) = 21 ∧ Ln h' (100 + i.toNat) = 4) → (∀ i : Int, 0 ≤ i → i < 5 → Mr h' 20 i = some (200 + i.toNat) ∧ Kd h' (200 + i.toNat) = 21 ∧ Ln h' (200 + i.toNat) = 4) → (∀ i, Mi h' 15 i = 0) → P (.inl none) h') : Ct kCa_init d [pR (some 15)] (alc h 15 2 0) P := by
  have K9 := H (setR (mnh (setR (alc (setR (mnh (setR (alc (alc h 15 2 0) 17 39 60) 15 0 (some 17)) 18 100 4 60) 15 1 (some 18)) 19 21 60) 15 2 (some 19)) 20 200 4 5) 15 7 (some 20))
    (fun m m1 m2 m3 m4 => ⟨by simp only [Kd_setR, Kd_mnh, Kd_alc]; repeat rw [if_neg (by omega)], by simp only [Ln_setR, Ln_mnh, Ln_alc]; repeat rw [if_neg (by omega)], by funext i; simp only [Mi_setR, Mi_mnh, Mi_alc]; repeat rw [if_neg (by omega)], by funext i; simp only [Mr_setR, Mr_mnh, Mr_alc]; repeat rw [if_neg (by omega)]⟩)
    (by simp [Kd_setR, Kd_mnh, Kd_alc, Ln_setR, Ln_mnh, Ln_alc, Mr_setR, Mr_mnh, Mr_alc])
    (fun i i0 i1 => by
      simp only [Kd_setR, Kd_mnh, Kd_alc, Ln_setR, Ln_mnh, Ln_alc, Mr_setR, Mr_mnh, Mr_alc]
      refine ⟨?_, ?_, ?_⟩ <;> repeat (first | rw [if_pos trivial] | rw [if_neg (by omega)] | rw [if_pos (by omega)]))
    (fun i i0 i1 => by
      simp only [Kd_setR, Kd_mnh, Kd_alc, Ln_setR, Ln_mnh, Ln_alc, Mr_setR, Mr_mnh, Mr_alc]
      refine ⟨?_, ?_, ?_⟩ <;> repeat (first | rw [if_pos trivial] | rw [if_neg (by omega)] | rw [if_pos (by omega)]))
    (fun i => by simp [Mi_setR, Mi_mnh, Mi_alc])
  clear H
  have f17 := fr 17 (by decide) (by decide)
  have f18 := fr 18 (by decide) (by decide)
  have f19 := fr 19 (by decide) (by decide)
  have f20 := fr 20 (by decide) (by decide)
  refine eCa_init ?_
  refine bCa_init_0 _ _ _ _ _ ?_
  have hl : lget [some (pR (some 15))] 0 = some (pR (some 15)) := rfl
  rw [o_aload_eq hl]
  refine ⟨by omega, by simp, ?_⟩
  rw [o_objinit_eq, o_aload_eq hl]
  refine ⟨by decide, by decide, by decide, by decide, 17, by decide, (by rw [Kd_alc, if_neg (by decide)]; exact f17), ?_⟩
  refine dr_some.mpr ⟨rfl, okn_some.mpr (by simp [Kd_alc]), ?_⟩
  rw [o_aload_eq hl]
  refine ⟨by decide, by decide, by decide, by decide, by decide, by decide, 18, 100, by decide, by decide, (by simp [Kd_setR, Kd_alc, f18]), (fun i hi => by
    have hi2 : i < 60 := hi
    rw [Kd_setR, Kd_alc, if_neg (by omega), Kd_alc, if_neg (by omega)]; exact fr _ (by omega) (by omega)), Or.inl (by decide), ?_⟩
  refine dr_some.mpr ⟨by simp [Kd_setR, Kd_alc, Kd_mnh], okn_some.mpr (by simp [Kd_mnh]), ?_⟩
  rw [o_aload_eq hl]
  refine ⟨by decide, by decide, by decide, by decide, 19, by decide, (by simp [Kd_setR, Kd_alc, Kd_mnh, f19]), ?_⟩
  refine dr_some.mpr ⟨by simp [Kd_setR, Kd_alc, Kd_mnh], okn_some.mpr (by simp [Kd_alc]), ?_⟩
  rw [o_aload_eq hl]
  refine ⟨by decide, by decide, by decide, by decide, by decide, by decide, 20, 200, by decide, by decide, (by simp [Kd_setR, Kd_alc, Kd_mnh, f20]), (fun i hi => by
    have hi2 : i < 5 := hi
    simp only [Kd_setR, Kd_mnh, Kd_alc]
    repeat rw [if_neg (by omega)]
    exact fr _ (by omega) (by omega)), Or.inl (by decide), ?_⟩
  refine dr_some.mpr ⟨by simp [Kd_setR, Kd_alc, Kd_mnh], okn_some.mpr (by simp [Kd_mnh]), ?_⟩
  exact K9
theorem c_Fa_init {d : Nat} (hd : 1 ≤ d) {h : Mh} {P : Out → Mh → Prop} (k15 : Kd h 15 = 2) (f21 : Kd h 21 = 0) (f22 : Kd h 22 = 0)
    (H : ∀ h', (∀ m, m ≠ 16 → m ≠ 21 → m ≠ 22 → Sam h h' m) → (Kd h' 16 = 5 ∧ Mr h' 16 0 = some 21 ∧ Mr h' 16 2 = some 22 ∧ Mr h' 16 8 = some 15 ∧ Kd h' 21 = 36 ∧ Ln h' 21 = 4 ∧ Kd h' 22 = 35 ∧ Ln h' 22 = 80) → (∀ i, Mi h' 16 i = if i = 4 then 200 else 0) → P (.inl none) h') : Ct kFa_init d [pR (some 16), pR (some 15)] (alc h 16 5 0) P := by
  have K9 := H (setR (setI (setR (alc (setR (alc (alc h 16 5 0) 21 36 4) 16 0 (some 21)) 22 35 80) 16 2 (some 22)) 16 4 200) 16 8 (some 15))
    (fun m m1 m2 m3 => ((((((Sam.rfl'.alc m1).alc m2).setR m1).alc m3).setR m1).setI m1).setR m1)
    (by simp [Kd_setI, Ln_setI, Mr_setI, Kd_setR, Kd_alc, Ln_setR, Ln_alc, Mr_setR, Mr_alc])
    (fun i => by simp [Mi_setI, Mi_setR, Mi_alc])
  clear H
  refine eFa_init ?_
  repeat' (first | (with_reducible refine And.intro ?_ ?_) | (with_reducible intro _) | (exact Nat.le_of_ble_eq_true rfl) | (refine bFa_init_0 _ _ _ _ _ ?_; simp only [o_const, o_null, o_lconst, o_iload, o_aload, o_istore, o_astore, o_iinc, o_iadd, o_isub, o_imul, o_idiv, o_irem, o_ineg, o_i2l, o_lcmp, o_dup, o_dup2, o_goto, o_max, o_min, o_objinit, o_icmplt, o_iflt, o_icmpge, o_ifge, o_icmpgt, o_ifgt, o_icmple, o_ifle, o_icmpeq, o_ifeq, o_icmpne, o_ifne, o_ifnull, o_ifnonnull, o_acmpeq, o_acmpne, o_tsw, tsw, o_getI, o_getR, o_putI, o_putZ, o_putR, o_iald, o_bald, o_lald, o_aald, o_iast, o_bast, o_last, o_aast, o_alen, o_new, o_newa, o_iret, o_zret, o_aret, o_vret, o_throw, o_call, o_callV, o_aft_v, o_aft_n, o_aft_x, o_up_e, lget, lset, all1, dr_some, List.take_succ_cons, List.take_zero, List.drop_succ_cons, List.drop_zero, List.reverse_cons, List.reverse_nil, List.nil_append, List.cons_append, List.length_cons, List.length_nil, List.take_nil, List.drop_nil, true_and, and_true, false_and, and_false, true_implies, implies_true, false_implies, ne_eq, not_true_eq_false, not_false_eq_true, reduceCtorEq, Option.some.injEq, if_true, if_false, ite_true, ite_false, Nat.zero_add, eq_self, okn_some, okn_none, forall_const, true_or, or_true, false_or, or_false, Option.map_some, Option.map_none, Kd_setI, Ln_setI, Mr_setI, Kd_setR, Ln_setR, Mi_setR, Int.reduceNatCast', Int.reduceNeg, Int.reduceAdd, Int.reduceSub, Int.reduceMul, Int.reduceEq, Int.reduceNe, Int.reduceLT, Int.reduceLE, Nat.reduceAdd, Nat.reduceSub, Nat.reduceLT, Nat.reduceLeDiff, Nat.reduceEqDiff, Mi_setI, Kd_alc, k15]) | (refine ⟨21, (by decide), (by simp [Kd_alc, Kd_setR]; exact f21), ?_⟩) | (refine ⟨22, (by decide), (by simp [Kd_alc, Kd_setR]; exact f22), ?_⟩) | (simp only [o_const, o_null, o_lconst, o_iload, o_aload, o_istore, o_astore, o_iinc, o_iadd, o_isub, o_imul, o_idiv, o_irem, o_ineg, o_i2l, o_lcmp, o_dup, o_dup2, o_goto, o_max, o_min, o_objinit, o_icmplt, o_iflt, o_icmpge, o_ifge, o_icmpgt, o_ifgt, o_icmple, o_ifle, o_icmpeq, o_ifeq, o_icmpne, o_ifne, o_ifnull, o_ifnonnull, o_acmpeq, o_acmpne, o_tsw, tsw, o_getI, o_getR, o_putI, o_putZ, o_putR, o_iald, o_bald, o_lald, o_aald, o_iast, o_bast, o_last, o_aast, o_alen, o_new, o_newa, o_iret, o_zret, o_aret, o_vret, o_throw, o_call, o_callV, o_aft_v, o_aft_n, o_aft_x, o_up_e, lget, lset, all1, dr_some, List.take_succ_cons, List.take_zero, List.drop_succ_cons, List.drop_zero, List.reverse_cons, List.reverse_nil, List.nil_append, List.cons_append, List.length_cons, List.length_nil, List.take_nil, List.drop_nil, true_and, and_true, false_and, and_false, true_implies, implies_true, false_implies, ne_eq, not_true_eq_false, not_false_eq_true, reduceCtorEq, Option.some.injEq, if_true, if_false, ite_true, ite_false, Nat.zero_add, eq_self, okn_some, okn_none, forall_const, true_or, or_true, false_or, or_false, Option.map_some, Option.map_none, Kd_setI, Ln_setI, Mr_setI, Kd_setR, Ln_setR, Mi_setR, Int.reduceNatCast', Int.reduceNeg, Int.reduceAdd, Int.reduceSub, Int.reduceMul, Int.reduceEq, Int.reduceNe, Int.reduceLT, Int.reduceLE, Nat.reduceAdd, Nat.reduceSub, Nat.reduceLT, Nat.reduceLeDiff, Nat.reduceEqDiff, Mi_setI, Kd_alc, k15]) | (unfold rng; omega) | omega)
  all_goals first | exact K9 | exact hd | exact f21 | exact f22 | done
theorem lft_A0 : ∀ n : Nat, lft A0 n = 0
  | 0 => rfl
  | n + 1 => by
    show lft A0 n + (if (-1 : Int) = -1 then 0 else A0 33 n 0) = 0
    rw [lft_A0 n, if_pos rfl]; rfl
