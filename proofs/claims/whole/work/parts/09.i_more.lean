theorem s_tsw {K : MKey} {d : Nat} {X : Option (Nat × (Nat → Int))} {P : Out → Mh → Prop} {pc dt n : Nat} {dflt lo hi : Int} {offs : Array Int} {ts : List (Int × Nat × Pd)} {q : Pd} (hd : decode (kB K) pc = .ok (.tableswitch dflt lo hi offs, n)) (hdt : (pc : Int) + dflt = (dt : Int)) (hq : Imp q (Ru K d X P dt))
    (hts : ∀ z ∈ ts, Imp z.2.2 (Ru K d X P z.2.1)) (hof : ts.map (fun z => (z.1, (z.2.1 : Int))) = (List.range offs.size).map (fun j : Nat => (lo + (j : Int), (pc : Int) + offs.getD j 0))) (hhi : hi = lo + (offs.size : Int) - 1) : Imp (o_tsw lo hi (ts.map (fun z => (z.1, z.2.2))) q) (Ru K d X P pc) := by
  intro L S h c sl hh l p e R s m args below meth cd D A ad0 dm0 C ad cA H locs ls cells slots hR hS he hL hSk hc hs
  unfold o_tsw at hh
  split at hh
  next x S' =>
    have hx : rng x := sok_hd hSk
    have hxi := i32_to hx
    by_cases hout : x < lo ∨ hi < x
    · exact lv_tableOut (tgt := dt) C.1 C.2.1 hd (by rw [hxi]; exact hout) hdt (hq L S' h c sl (hh.2 hout) l p e R s m args below meth cd D A ad0 dm0 C ad cA H locs ls cells slots hR hS he hL (sok_tl hSk) hc hs)
    · have hj : (x - lo).toNat < offs.size := by omega
      obtain ⟨off, ho⟩ : ∃ off, offs[(x - lo).toNat]? = some off := ⟨_, Array.getElem?_eq_getElem hj⟩
      have hg : offs.getD (x - lo).toNat 0 = off := by rw [Array.getD_eq_getD_getElem?, ho]; rfl
      have hm := congrArg (fun l : List (Int × Int) => l[(x - lo).toNat]?) hof
      simp only [List.getElem?_map, List.getElem?_range hj] at hm
      cases hz : ts[(x - lo).toNat]? with
      | none => rw [hz] at hm; cases hm
      | some z =>
        rw [hz] at hm
        have hm2 := Option.some.inj hm
        have e1 : z.1 = lo + (((x - lo).toNat : Nat) : Int) := congrArg Prod.fst hm2
        have e2 : (z.2.1 : Int) = (pc : Int) + offs.getD (x - lo).toNat 0 := congrArg Prod.snd hm2
        rw [hg] at e2
        have hzm := List.mem_of_getElem? hz
        have key : ∀ (us : List (Int × Nat × Pd)), z ∈ us → tsw x L S' h c sl (us.map (fun z => (z.1, z.2.2))) → z.2.2 L S' h c sl := by
          intro us
          induction us with
          | nil => intro hz9; cases hz9
          | cons u us ih =>
            intro hz9 ht9
            rcases List.mem_cons.mp hz9 with rfl | hz9
            · exact ht9.1 (by omega)
            · exact ih hz9 ht9.2
        exact lv_tableIn (tgt := z.2.1) C.1 C.2.1 hd (by rw [hxi]; omega) (by rw [hxi]; omega) (by rw [hxi]; exact ho) e2.symm (hts z hzm L S' h c sl (key ts hzm hh.1) l p e R s m args below meth cd D A ad0 dm0 C ad cA H locs ls cells slots hR hS he hL (sok_tl hSk) hc hs)
  next => exact hh.elim
-- the script, for the law
def o_sld (X : Option (Nat × (Nat → Int))) (q : Pd) : Pd := fun L S h c s => match S, X with
  | .inl i :: .inr (.inl r) :: S', some x => r = some 0 ∧ 0 ≤ i ∧ i < x.1 ∧ q L (pI (x.2 i.toNat) :: S') h c s
  | _, _ => False
def o_slen (X : Option (Nat × (Nat → Int))) (q : Pd) : Pd := fun L S h c s => match S, X with
  | .inr (.inl r) :: S', some x => r = some 0 ∧ q L (pI x.1 :: S') h c s
  | _, _ => False
theorem s_sld {K : MKey} {d : Nat} {X : Option (Nat × (Nat → Int))} {P : Out → Mh → Prop} {pc : Nat} {q : Pd} (hX : ∀ x, X = some x → x.1 < 100000) (hd : decode (kB K) pc = .ok (.iaload, 1)) (hq : Imp q (Ru K d X P (pc + 1))) : Imp (o_sld X q) (Ru K d X P pc) := by
  intro L S h c sl hh l p e R s m args below meth cd D A ad0 dm0 C ad cA H locs ls cells slots hR hS he hL hSk hc hs
  obtain ⟨cx, cb, cr, cml, cown, cts, clk, cnm, cet, cK, cst, cfr, clo, cce, csl, cA9, cXs⟩ := id C
  unfold o_sld at hh
  split at hh
  next i r S' x =>
    obtain ⟨rfl, i0, i1, hh⟩ := hh
    obtain ⟨x1, x2, x3, x4, x5⟩ := cXs
    have hlt := hX x rfl
    have K9 := hq L (pI (x.2 i.toNat) :: S') h c sl hh l p e R s m args below meth cd D A ad0 dm0 C ad cA H locs ls cells slots hR hS he hL (sok_cons (x5 _) (sok_tl (sok_tl hSk))) hc hs
    have e0 := (he 0 x1).2
    rw [List.map_cons, List.map_cons, show tv ad (pR (some 0)) = .ref (ad0 0) from by simp [tv, va_rf, e0]]
    have h9 := i32_in (n := (x.1 : Int)) i0 i1 (by omega)
    refine va_sld cx cb x2 x3 x4 hS (i := Int32.ofInt i) (by simpa using h9) hd ?_
    rw [i32_cl i0 (by omega)]
    exact K9
  next => exact hh.elim
theorem s_slen {K : MKey} {d : Nat} {X : Option (Nat × (Nat → Int))} {P : Out → Mh → Prop} {pc : Nat} {q : Pd} (hX : ∀ x, X = some x → x.1 < 100000) (hd : decode (kB K) pc = .ok (.arraylength, 1)) (hq : Imp q (Ru K d X P (pc + 1))) : Imp (o_slen X q) (Ru K d X P pc) := by
  intro L S h c sl hh l p e R s m args below meth cd D A ad0 dm0 C ad cA H locs ls cells slots hR hS he hL hSk hc hs
  obtain ⟨cx, cb, cr, cml, cown, cts, clk, cnm, cet, cK, cst, cfr, clo, cce, csl, cA9, cXs⟩ := id C
  unfold o_slen at hh
  split at hh
  next r S' x =>
    obtain ⟨rfl, hh⟩ := hh
    obtain ⟨x1, x2, x3, x4, x5⟩ := cXs
    have hlt := hX x rfl
    have K9 := hq L (pI x.1 :: S') h c sl hh l p e R s m args below meth cd D A ad0 dm0 C ad cA H locs ls cells slots hR hS he hL (sok_cons (v := pI x.1) ⟨by omega, by omega⟩ (sok_tl hSk)) hc hs
    have e0 := (he 0 x1).2
    rw [List.map_cons, show tv ad (pR (some 0)) = .ref (ad0 0) from by simp [tv, va_rf, e0]]
    rw [List.map_cons, show tv ad (pI x.1) = .int (Int32.ofNat x.1) from by rw [← Int32.ofInt_eq_ofNat]; rfl] at K9
    exact va_slen cx cb x2 x3 x4 hS hd K9
  next => exact hh.elim
-- handlers
def E3 : List String := ["java/lang/IndexOutOfBoundsException", "java/lang/IllegalArgumentException", "java/lang/IllegalStateException"]
def hXr : List (String × (Nat × Nat × Nat × Nat) × Nat × Pd) → String → Pd
  | [], _ => fun _ _ _ _ _ => False
  | z :: r, E => fun L S h c s => (E = z.1 → z.2.2.2 (lset L z.2.2.1 none) [] h c s) ∧ (E ≠ z.1 → hXr r E L S h c s)
def hX (hs : List (String × (Nat × Nat × Nat × Nat) × Nat × Pd)) : String → Pd := fun E L S h c s => E ∈ E3 ∧ hXr hs E L S h c s
theorem e3_nc : ∀ E ∈ E3, ∀ E' ∈ E3, E ≠ E' → (E, E') ∈ ncW := by
  intro E hE E' hE' hne
  simp only [E3, List.mem_cons, List.not_mem_nil, or_false] at hE hE'
  rcases hE with rfl | rfl | rfl <;> rcases hE' with rfl | rfl | rfl <;> first | exact absurd rfl hne | decide +kernel
theorem e3_cast : ∀ E ∈ E3, Cond.castable E E ∈ nwW := by
  intro E hE
  simp only [E3, List.mem_cons, List.not_mem_nil, or_false] at hE
  rcases hE with rfl | rfl | rfl <;> decide +kernel
def isAst (b : ByteArray) (hp k n : Nat) : Prop := (∃ k4 : Fin 4, (k4 : Nat) = k ∧ n = 1 ∧ decode b hp = .ok (.astore_n k4, 1)) ∨ (n = 2 ∧ decode b hp = .ok (.astore k, 2))
def okH (K : MKey) (d : Nat) (X : Option (Nat × (Nat → Int))) (P : Out → Mh → Prop) (pc : Nat) (z : String × (Nat × Nat × Nat × Nat) × Nat × Pd) : Prop :=
  covers ⟨z.2.1.1, z.2.1.2.1, z.2.1.2.2.1, z.2.1.2.2.2⟩ pc = true ∧ z.2.1.2.2.2 ≠ 0 ∧ Cond.classLink (kY K).cls z.2.1.2.2.2 z.1 ∈ UG ∧ z.1 ∈ E3 ∧ z.2.2.1 < kL K ∧ ∃ n, isAst (kB K) z.2.1.2.2.1 z.2.2.1 n ∧ Imp z.2.2.2 (Ru K d X P (z.2.1.2.2.1 + n))
theorem hnd {K : MKey} {d : Nat} {X : Option (Nat × (Nat → Int))} {P : Out → Mh → Prop} {pc : Nat} {L : Lcs} {S' : List MV} {c sl : Nat} {l : Launch} {p : Program} {e : Env} {R : Room} {s : State} {m : MethodId} {args : Array Value} {below : List Frame} {meth : Method} {cd : Code} {D : va_G} {A : Nat → Prop} {ad0 : Nat → Nat} {dm0 : Nat → Prop} (C : Cx K d X l p R s m args meth cd D A ad0 dm0) {ls : Array Slot} {cells slots : Nat} (hc : cells + c ≤ kC K) (hs : slots + sl ≤ kS K)
    {E : String} {h1 : Mh} {ad1 : Nat → Nat} {cA1 : Nat → ClassId} {H1 : Heap} {locs1 : List Loc} {ce : Cell} {q9 : Addr} (hE : E ∈ E3) (hR : Rep D cA1 ad1 h1 H1 A s) (hS : va_S A s.heap H1 locs1) (he : ∀ n, dm0 n → dmh h1 n ∧ ad1 n = ad0 n) (hL : Lok ad1 h1 L ls (kL K)) (hce : H1[q9]? = some ce) (hcv : ce.vm = .none) (hcl : s.vm.findClass E = some ce.cls) (st9 : List Value) :
    ∀ (hs9 : List (String × (Nat × Nat × Nat × Nat) × Nat × Pd)) (pre : List ExceptionTableEntry), cd.exceptionTable.toList = pre ++ tableOf (hs9.map (fun z => z.2.1)) → (∀ z ∈ pre, covers z pc = false ∨ (z.catchType ≠ 0 ∧ ∃ nm : String, (Cond.classLink (kY K).cls z.catchType nm).before args s = true ∧ va_Nc E nm s)) → (∀ z ∈ hs9, okH K d X P pc z) → hXr hs9 E L S' h1 c sl →
      vx_W p l e R s m args below meth cd H1 locs1 cells slots (vx_MQ below (Qn D P ad0 dm0 A) (Xn D P ad0 dm0 A) args s (kC K) (kS K) A) (F0 m pc ls st9) q9 := by
  obtain ⟨cx, cb, cr, cml, cown, cts, clk, cnm, cet, cK, cst, cfr, clo, cce, csl, cA9, cXs⟩ := id C
  intro hs9
  induction hs9 with
  | nil => intro pre _ _ _ hz; exact hz.elim
  | cons z r ih =>
    intro pre htab hpass hok hz
    obtain ⟨o1, o2, o3, o4, o5, n, o6, o7⟩ := hok z List.mem_cons_self
    by_cases hEz : E = z.1
    · have hh := hz.1 hEz
      refine vx_catch (own := (kY K).cls) (name := z.1) cown pre ⟨z.2.1.1, z.2.1.2.1, z.2.1.2.2.1, z.2.1.2.2.2⟩ (tableOf (r.map (fun z : String × (Nat × Nat × Nat × Nat) × Nat × Pd => z.2.1))) (by rw [htab]; rfl) hpass o1 o2 (cts _ o3) (by rw [← hEz]; exact va_Nw.use rfl (cK.2.1 _ (e3_cast E hE))) hce hcv hcl ?_
      rw [lset_eq] at hh
      rcases o6 with ⟨k4, e4, rfl, hd⟩ | ⟨rfl, hd⟩
      · refine lv_astore_n cx cb hd e4 hL.2.1 o5 rfl (fun ls' h' => ?_)
        exact o7 _ [] h1 c sl hh l p e R s m args below meth cd D A ad0 dm0 C ad1 cA1 H1 locs1 ls' cells slots hR hS he (hL.drop rfl h') (fun v hv => by cases hv) hc hs
      · refine lv_astore cx cb hd hL.2.1 o5 rfl (fun ls' h' => ?_)
        exact o7 _ [] h1 c sl hh l p e R s m args below meth cd D A ad0 dm0 C ad1 cA1 H1 locs1 ls' cells slots hR hS he (hL.drop rfl h') (fun v hv => by cases hv) hc hs
    · refine ih (pre ++ [⟨z.2.1.1, z.2.1.2.1, z.2.1.2.2.1, z.2.1.2.2.2⟩]) (by rw [htab, List.append_assoc]; rfl) ?_ (fun w hw => hok w (List.mem_cons_of_mem _ hw)) (hz.2 hEz)
      intro w hw
      rcases List.mem_append.mp hw with hw | hw
      · exact hpass w hw
      · rw [List.mem_singleton.mp hw]
        exact Or.inr ⟨o2, z.1, cts _ o3, cK.2.2.2.2.2.1 _ (e3_nc E hE z.1 o4 hEz)⟩
/-- a virtual call in a method with handlers -/
theorem s_callVH {K : MKey} {d : Nat} {X : Option (Nat × (Nat → Int))} {P : Out → Mh → Prop} {pc : Nat} {q : Pd} {K' : MKey} {ci na idx : Nat} (hs9 : List (String × (Nat × Nat × Nat × Nat) × Nat × Pd)) (hh0 : kH K = hs9.map (fun z => z.2.1)) (hok : ∀ z ∈ hs9, okH K d X P pc z) (hM : MkB K' na) (hh' : kH K' = []) (hci : decide (ci < 12) = true) (hcl : (kY K').cls = rX ci) (hin : Cond.instanceMethod (kY K') ∈ UG) (hse : Cond.selects (rX ci) (kY K') (kY K') ∈ UG) (hlk : Cond.methodLink (kY K).cls idx (kY K') ∈ UG)
    (hd : decode (kB K) pc = .ok (.invokevirtual idx, 3)) (hq : Imp q (Ru K d X P (pc + 3))) : Imp (fun L S h c s => all1 (S.take (na + 1)) = true ∧ o_callV d K' ci na (hX hs9) q L S h c s) (Ru K d X P pc) := by
  intro L S h c sl hh l p e R s m args below meth cd D A ad0 dm0 C ad cA H locs ls cells slots hR hS he hL hSk hc hs
  obtain ⟨cx, cb, cr, cml, cown, cts, clk, cnm, cet, cK, cst, cfr, clo, cce, csl, cA9, cXs⟩ := id C
  have hci := of_decide_eq_true hci
  obtain ⟨ha1, ⟨a, hrc, hka⟩, hna, hlen, hd1, hc2, hs2, hct⟩ := hh
  have hdr := drop_rcv hrc
  have hT : ∀ v ∈ (S.take (na + 1)).reverse, okv h v ∧ cat1 v := fun v hv => ⟨sok_take hSk v hv, all1_of ha1 v (List.mem_reverse.mp hv)⟩
  have hM9 := hct l D cA ad H.size cst hT
  rw [take_succ_rev hdr] at hM9
  refine run_W hq (S' := S.drop (na + 1)) (Xh := hX hs9) (K' := K') C hR hS he hL (sok_drop hSk) hc hs hc2 hs2 (fun E h1 ad1 cA1 H1 locs1 ce q9 z1 z2 z3 z4 z5 z6 z7 z8 => hnd C (by omega) (by omega) z1.1 z2 z3 z4 z5 z6 z7 z8 _ hs9 [] (by rw [cet, hh0]; rfl) (fun w hw => by cases hw) hok z1.2) ?_
  obtain ⟨dom, q0, h1, h2, hP, hD, e1, e2⟩ := hR.mem (n := a) (by omega)
  rw [cel_obj hka hci] at e2
  exact vx_runV (b := ad a) (As := ((S.take na).reverse).map (tv ad)) ⟨cx, cb, cml, cown, cts⟩ hM9 ⟨hM.callB hh' cts hlk hd1 cfr clo, cts _ hin, cts _ hse⟩ ⟨blind blindR, va_recv cK.1 hP (ci := ci) (q0 := q0) (vw_at ci hci) e2, fun U hU hW => ⟨rfl, entB C hR hS U hU hW⟩⟩ rfl (by simp; omega) hL.2.1.1 (stack_rcv hdr) (lv_room (Nat.le_trans (cat_sum (n := 4) (by simp; omega)) (Nat.le_refl 8))) hd ⟨by omega, by omega⟩
/-- a static call of a method with handlers, from a method without -/
theorem s_callSX {K : MKey} {d : Nat} {X : Option (Nat × (Nat → Int))} {P : Out → Mh → Prop} {pc : Nat} {q : Pd} {K' : MKey} {na idx : Nat} (hh0 : kH K = []) (hM : MkB K' na) (z9 : Nat × Nat × Nat × Nat) (r9 : List (Nat × Nat × Nat × Nat)) (hh' : kH K' = z9 :: r9) (hst : Cond.static (kY K') ∈ UG) (hlk : Cond.methodLink (kY K).cls idx (kY K') ∈ UG)
    (hd : decode (kB K) pc = .ok (.invokestatic idx, 3)) (hq : Imp q (Ru K d X P (pc + 3))) : Imp (fun L S h c s => all1 (S.take na) = true ∧ o_call d K' na (o_up P) q L S h c s) (Ru K d X P pc) := by
  intro L S h c sl hh l p e R s m args below meth cd D A ad0 dm0 C ad cA H locs ls cells slots hR hS he hL hSk hc hs
  obtain ⟨cx, cb, cr, cml, cown, cts, clk, cnm, cet, cK, cst, cfr, clo, cce, csl, cA9, cXs⟩ := id C
  obtain ⟨ha1, hna, hlen, hd1, hc2, hs2, hct⟩ := hh
  have hT : ∀ v ∈ (S.take na).reverse, okv h v ∧ cat1 v := fun v hv => ⟨sok_take hSk v hv, all1_of ha1 v (List.mem_reverse.mp hv)⟩
  have hcw : codeW K' = .codeWith (kY K') (kB K') (kL K') (kR K') (z9 :: r9) := by unfold codeW; rw [hh']
  have hk := hM.2.2.2.2
  refine run_W hq (S' := S.drop na) (Xh := o_up P) (K' := K') C hR hS he hL (sok_drop hSk) hc hs hc2 hs2 (up_X hh0 C (by omega) (by omega)) ?_
  have cB : vx_CSW R s args (kY K).cls idx (kY K') (kB K') (kL K') (kR K') (z9 :: r9) (kW K') (kRm K' (d - 1)) (kC K') (kS K') na :=
    ⟨⟨rfl, rfl, by show d - 1 + 1 ≤ _; omega, by show 8 + (kL K' + 11) + 40 * (d - 1) ≤ _; omega, pay_in cts hM.good, by rw [← hcw]; exact List.mem_cons_self⟩, by rw [← hcw]; exact cts _ hM.1, cts _ hM.2.1, hM.2.2.1, hM.len, cts _ hlk, cts _ hst⟩
  exact vx_runSX (As := ((S.take na).reverse).map (tv ad)) ⟨cx, cb, cml, cown, cts⟩ (hct l D cA ad H.size cst hT) cB ⟨blind blindR, fun U hU hW => ⟨rfl, entB C hR hS U hU hW⟩⟩ rfl (by simp; omega) hL.2.1.1 take_drop_map (lv_room (Nat.le_trans (cat_sum (n := 4) (by simp; omega)) (Nat.le_refl 8))) hd ⟨by omega, by omega⟩
