-- making
theorem Rep.lt {D : va_G} {cA : Nat → ClassId} {ad : Nat → Nat} {h : Mh} {H : Heap} {A : Nat → Prop} {U : State} (R : Rep D cA ad h H A U) {n : Nat} (hn : Kd h n ≠ 0) : ad n < H.size := by
  obtain ⟨dom, q0, h1, h2, hP, hD, e1, e2⟩ := R.mem hn
  exact (hP q0 _ e2).lt
theorem Rep.inA {D : va_G} {cA : Nat → ClassId} {ad : Nat → Nat} {h : Mh} {H : Heap} {A : Nat → Prop} {U : State} (R : Rep D cA ad h H A U) {n : Nat} (hn : Kd h n ≠ 0) : A (ad n) := by
  obtain ⟨dom, q0, h1, h2, hP, hD, e1, e2⟩ := R.mem hn
  exact hD.2 q0 _ e2
theorem Rep.inj {D : va_G} {cA : Nat → ClassId} {ad : Nat → Nat} {h : Mh} {H : Heap} {A : Nat → Prop} {U : State} (R : Rep D cA ad h H A U) {n m : Nat} (hn : Kd h n ≠ 0) (hm : Kd h m ≠ 0) (e : ad n = ad m) : n = m := by
  obtain ⟨dom, q0, h1, h2, hP, hD, e1, e2⟩ := R.mem hn
  obtain ⟨q1, e3, e4⟩ := wsO_get (cA := cA) (ad := ad) (h := h) ((h2 m).mpr hm)
  have := hD.1 q0 q1 _ _ e2 e4 e
  subst this
  rw [e1] at e3
  exact Option.some.inj e3
/-- the heap grows, the names' cells stay -/
theorem Rep.grow {D : va_G} {cA : Nat → ClassId} {ad : Nat → Nat} {h : Mh} {H H1 : Heap} {A : Nat → Prop} {U : State} (R : Rep D cA ad h H A U) (hq : ∀ q : Nat, q < H.size → H1[q]? = H[q]?) : Rep D cA ad h H1 A U := by
  obtain ⟨⟨dom, h1, h2, h3, h4⟩, r⟩ := R
  exact ⟨⟨dom, h1, h2, fun k q hk => (h3 k q hk).kept (hq _ (h3 k q hk).lt), h4⟩, r⟩
/-- a new name n at the address q -/
theorem alc_rep {D : va_G} {cA : Nat → ClassId} {ad : Nat → Nat} {h : Mh} {H H1 : Heap} {A : Nat → Prop} {U : State} {n kind : Nat} {len : Int} {c9 : ClassId} {q : Nat} {e : va_E} (hR : Rep D cA ad h H A U) (h0 : n ≠ 0) (hn : Kd h n = 0) (hkd : 0 < kind) (hk2 : kind ≤ 12 ∨ 20 < kind) (hl : 0 ≤ len ∧ len < 2147483648)
    {dom : List Nat} (h1 : dom.Nodup) (h2 : ∀ n, n ∈ dom ↔ Kd h n ≠ 0) (hc9 : 20 < kind → ArrOfT U c9 (aty kind) ∧ va_RA U c9 (aty kind))
    (he : cel (fun m => if m = n then c9 else cA m) (fun m => if m = n then q else ad m) (alc h n kind len) n = e)
    (hP1 : va_P D vwCl (wsO cA ad h dom ++ [(q, e)]) H1) (hD1 : va_D A (wsO cA ad h dom ++ [(q, e)])) :
    Rep D (fun m => if m = n then c9 else cA m) (fun m => if m = n then q else ad m) (alc h n kind len) H1 A U ∧ ∀ m, dmh h m → dmh (alc h n kind len) m ∧ (if m = n then q else ad m) = ad m := by
  have hne : ∀ m, Kd h m ≠ 0 → m ≠ n := fun m hm q9 => hm (by rw [q9]; exact hn)
  have hcl := hR.2.2.2.2.2.1
  have e5 : ∀ m, m ≠ n → cel (fun m => if m = n then c9 else cA m) (fun m => if m = n then q else ad m) (alc h n kind len) m = cel cA ad h m := by
    intro m hm
    have r1 : ∀ k, (Mr h m k).map (fun m => if m = n then q else ad m) = (Mr h m k).map ad := by
      intro k
      cases hx : Mr h m k with
      | none => rfl
      | some y => simp [hne y (hcl m k y hx)]
    have i1 : Kd (alc h n kind len) m = Kd h m := by rw [Kd_alc, if_neg hm]
    have i2 : Ln (alc h n kind len) m = Ln h m := by rw [Ln_alc, if_neg hm]
    have i3 : ∀ k, Mi (alc h n kind len) m k = Mi h m k := fun k => by rw [Mi_alc, if_neg hm]
    have i4 : ∀ k, Mr (alc h n kind len) m k = Mr h m k := fun k => by rw [Mr_alc, if_neg hm]
    have f1 : ∀ c, fvl (fun m => if m = n then q else ad m) (alc h n kind len) c m = fvl ad h c m := fun c => by funext j; unfold fvl; rw [i3, i4, r1]
    have f2 : ael (fun m => if m = n then q else ad m) (alc h n kind len) m = ael ad h m := by unfold ael; simp only [i1, i2, i3, i4, r1]
    unfold cel
    rw [i1, f1, f2, show ((fun m => if m = n then c9 else cA m) m) = cA m from if_neg hm]
  have ew : wsO (fun m => if m = n then c9 else cA m) (fun m => if m = n then q else ad m) (alc h n kind len) (dom ++ [n]) = wsO cA ad h dom ++ [(q, e)] := by
    unfold wsO
    rw [List.map_append]
    congr 1
    · apply List.map_congr_left
      intro m hm
      have := hne m ((h2 m).mp hm)
      show ((if m = n then q else ad m), cel (fun m => if m = n then c9 else cA m) (fun m => if m = n then q else ad m) (alc h n kind len) m) = (ad m, cel cA ad h m)
      rw [e5 m this, if_neg this]
    · simp only [List.map_cons, List.map_nil]
      rw [he, if_pos trivial]
  refine ⟨⟨⟨dom ++ [n], ?_, ?_, by rw [ew]; exact hP1, by rw [ew]; exact hD1⟩, ?_, ?_, ?_, ?_, ?_, ?_⟩, ?_⟩
  · rw [List.nodup_append]
    refine ⟨h1, by simp, fun a ha b hb => ?_⟩
    rw [List.mem_singleton.mp hb]
    exact hne a ((h2 a).mp ha)
  · intro m
    rw [List.mem_append, List.mem_singleton, h2 m, Kd_alc]
    by_cases hm : m = n
    · rw [if_pos hm]; exact ⟨fun _ => by omega, fun _ => Or.inr hm⟩
    · rw [if_neg hm]; exact ⟨fun q9 => q9.elim id (fun z => absurd z hm), Or.inl⟩
  · intro m hm
    rw [Kd_alc] at hm ⊢
    by_cases hmn : m = n
    · rw [if_pos hmn] at hm ⊢
      simp only [if_pos hmn]
      exact hc9 hm
    · rw [if_neg hmn] at hm ⊢
      simp only [if_neg hmn]
      exact hR.2.1 m hm
  · intro m i
    rw [Mi_alc]
    split
    · exact ⟨by decide, by decide⟩
    · exact hR.2.2.1 m i
  · intro m
    rw [Ln_alc]
    split
    · exact hl
    · exact hR.2.2.2.1 m
  · intro m
    rw [Kd_alc]
    split
    · exact hk2
    · exact hR.2.2.2.2.1 m
  · intro m k m' hm'
    rw [Mr_alc] at hm'
    split at hm'
    · cases hm'
    · rw [Kd_alc]
      split
      · omega
      · exact hcl m k m' hm'
  · rw [Kd_alc, if_neg (fun q9 => h0 q9.symm)]
    exact hR.2.2.2.2.2.2
  · intro m hm
    have hmn : m ≠ n := hm.elim (fun z => by rw [z]; exact fun q9 => h0 q9.symm) (hne m)
    refine ⟨?_, by rw [if_neg hmn]⟩
    unfold dmh at hm ⊢
    rw [Kd_alc, if_neg hmn]
    exact hm
theorem dflt_i {ci k : Nat} (hci : ci < 12) (hk : k < nF ci) : defaultValue (tyX ci k) = if ftR ci k = true then .null else .int 0 := by
  rcases ty_kind ci hci k hk with ⟨q1, ⟨C9, q2⟩ | ⟨t9, q2⟩⟩ | ⟨q1, ⟨-, q2⟩ | ⟨-, q2⟩⟩ <;> rw [q1, q2] <;> rfl
theorem s_new {K : MKey} {d : Nat} {X : Option (Nat × (Nat → Int))} {P : Out → Mh → Prop} {pc : Nat} {q : Pd} {ci idx : Nat} (hci : decide (ci < 12) = true) (i1 i2 i3 : Nat) (w1 : lw_tbl[i1]? = some (.classLink (kY K).cls idx (rX ci))) (w2 : lw_tbl[i2]? = some (.instantiable (rX ci) (nF ci))) (w3 : lw_tbl[i3]? = some (.initialized (rX ci)))
    (hd : decode (kB K) pc = .ok (.new idx, 3)) (hq : Imp q (Ru K d X P (pc + 3))) : Imp (o_new ci q) (Ru K d X P pc) := by
  intro L S h c sl hh l p e R s m args below meth cd D A ad0 dm0 C ad cA H locs ls cells slots hR hS he hL hSk hc hs
  obtain ⟨cx, cb, cr, cml, cown, cts, clk, cnm, cet, cK, cst, cfr, clo, cce, csl, cA9, cXs⟩ := id C
  have hci := of_decide_eq_true hci
  obtain ⟨n, hn0, hn, hc1, hs1, hh⟩ := hh
  obtain ⟨⟨dom, h1, h2, hP, hD⟩, -⟩ := id hR
  refine va_new (fs := (List.range (nF ci)).map (fun k => if ftR ci k = true then .null else .int 0)) (ci := ci) (C := rX ci) (T := tX ci) (N := nF ci) cx cb cts (uw_all ci hci) (tyX ci) (ty_all ci hci) cown (ugw cts i1 w1 rfl) (ugw cts i2 w2 rfl) (ugw cts i3 w3 rfl) cK.1 hP hD hS cA9 (vw_at ci hci) ?_ (by omega) (by omega) hd (fun qa H1 hP1 hD1 hS1 => ?_)
  · intro j hj
    rw [dflt_i hci hj]
    simp [vp_V, hj]
  · have e9 : cel (fun m => if m = n then 0 else cA m) (fun m => if m = n then qa else ad m) (alc h n (ci + 1) 0) n = .inr (ci, (List.range (nF ci)).map (fun k => if ftR ci k = true then .null else .int 0)) := by
      rw [cel_obj (h := alc h n (ci + 1) 0) (by rw [Kd_alc, if_pos rfl]) hci]
      congr 2
      apply List.map_congr_left
      intro k _
      unfold fvl
      rw [Mr_alc, if_pos rfl, Mi_alc, if_pos rfl]
      rfl
    obtain ⟨r1, r2⟩ := alc_rep (len := 0) (c9 := (0 : Nat)) hR hn0 hn (by omega : 0 < ci + 1) (by omega) ⟨by omega, by omega⟩ h1 h2 (fun z => by omega) e9 hP1 hD1
    have hSk2 := hSk.moved r2
    have K9 := hq L (pR (some n) :: S) (alc h n (ci + 1) 0) (c - 1) (sl - nF ci) hh l p e R s m args below meth cd D A ad0 dm0 C (fun m => if m = n then qa else ad m) (fun m => if m = n then 0 else cA m) H1 locs ls (cells + 1) (slots + nF ci) r1 hS1
      (fun m hm => ⟨(r2 m (he m hm).1).1, (r2 m (he m hm).1).2.trans (he m hm).2⟩) (hL.moved r2) (sok_cons (fun m em => by cases em; exact Or.inr (by rw [Kd_alc, if_pos rfl]; omega)) hSk2.1) (by omega) (by omega)
    rw [List.map_cons, hSk2.2, show tv (fun m => if m = n then qa else ad m) (pR (some n)) = .ref qa from by simp [tv, va_rf]] at K9
    exact K9
def atyp (kind : Nat) : ArrayType := match kind with
  | 22 => .boolean
  | 23 => .long
  | _ => .int
theorem s_newa {K : MKey} {d : Nat} {X : Option (Nat × (Nat → Int))} {P : Out → Mh → Prop} {pc : Nat} {q : Pd} {kind : Nat} (hkind : kind = 21 ∨ kind = 22 ∨ kind = 23) (i1 : Nat) (w1 : lw_tbl[i1]? = some (.arrayClass (newarray.typeOf (atyp kind))))
    (hd : decode (kB K) pc = .ok (.newarray (atyp kind), 2)) (hq : Imp q (Ru K d X P (pc + 2))) : Imp (o_newa kind q) (Ru K d X P pc) := by
  intro L S h c sl hh l p e R s m args below meth cd D A ad0 dm0 C ad cA H locs ls cells slots hR hS he hL hSk hc hs
  obtain ⟨cx, cb, cr, cml, cown, cts, clk, cnm, cet, cK, cst, cfr, clo, cce, csl, cA9, cXs⟩ := id C
  unfold o_newa at hh
  split at hh
  next len S' =>
    obtain ⟨l0, l1, hc1, hs1, n, hn0, hn, hh⟩ := hh
    obtain ⟨⟨dom, h1, h2, hP, hD⟩, -⟩ := id hR
    have ety : newarray.typeOf (atyp kind) = aty kind := by rcases hkind with rfl | rfl | rfl <;> rfl
    have ecl : (Int32.ofInt len).toNatClampNeg = len.toNat := i32_cl l0 (by omega)
    have hneg : ¬ Int32.ofInt len < 0 := fun z => by
      have := (i32_lt (x := len) (y := 0) ⟨by omega, by omega⟩ ⟨by decide, by decide⟩).mp z
      omega
    have fin : ∀ (a0 : vp_A), (∀ c9 qa, cel (fun m => if m = n then c9 else cA m) (fun m => if m = n then qa else ad m) (alc h n kind len) n = .inl (c9, a0)) → (∀ cA9 : ClassId, vp_cell cA9 a0 = arrV cA9 len.toNat (fun _ => defaultValue (aty kind))) → len.toNat * componentBytes (aty kind) ≤ 536870912 →
        W p l e R s m args below meth cd H locs cells slots (vx_MQ below (Qn D P ad0 dm0 A) (Xn D P ad0 dm0 A) args s (kC K) (kS K) A) (F0 m pc ls (.int (Int32.ofInt len) :: S'.map (tv ad))) := by
      intro a0 ha ha2 hb
      refine va_newa (atype := atyp kind) cx cb (ugw cts i1 w1 rfl) ety cK.1 hP hD hS cA9 (a0 := a0) ha2 hneg ecl hb (by omega) (by omega) hd (fun qa c9 H1 hK1 hP1 hD1 hS1 => ?_)
      have hk9 := hK1.2 0 (c9, aty kind) rfl
      obtain ⟨r1, r2⟩ := alc_rep (len := len) (c9 := c9) hR hn0 hn (by omega : 0 < kind) (by omega) ⟨by omega, by omega⟩ h1 h2 (fun z => hk9) (ha c9 qa) hP1 hD1
      have hSk2 := (show Sok h S' from sok_tl hSk).moved r2
      have K9 := hq L (pR (some n) :: S') (alc h n kind len) (c - 1) (sl - len.toNat) hh l p e R s m args below meth cd D A ad0 dm0 C (fun m => if m = n then qa else ad m) (fun m => if m = n then c9 else cA m) H1 locs ls (cells + 1) (slots + len.toNat) r1 hS1
        (fun m hm => ⟨(r2 m (he m hm).1).1, (r2 m (he m hm).1).2.trans (he m hm).2⟩) (hL.moved r2) (sok_cons (fun m em => by cases em; exact Or.inr (by rw [Kd_alc, if_pos rfl]; omega)) hSk2.1) (by omega) (by omega)
      rw [List.map_cons, hSk2.2, show tv (fun m => if m = n then qa else ad m) (pR (some n)) = .ref qa from by simp [tv, va_rf]] at K9
      exact K9
    have ek : Kd (alc h n kind len) n = kind := by rw [Kd_alc, if_pos rfl]
    have el : Ln (alc h n kind len) n = len := by rw [Ln_alc, if_pos rfl]
    have ei : ∀ k, Mi (alc h n kind len) n k = 0 := fun k => by rw [Mi_alc, if_pos rfl]
    rcases hkind with rfl | rfl | rfl
    · refine fin (len.toNat, .inl (fun _ => 0)) (fun c9 qa => ?_) (fun _ => rfl) (by show len.toNat * 4 ≤ _; omega)
      rw [cel_arr (by rw [ek]; omega), ael_i (by rw [ek]; omega), el]
      simp only [ei, if_pos]; rfl
    · refine fin (len.toNat, .inl (fun _ => 0)) (fun c9 qa => ?_) (fun _ => rfl) (by show len.toNat * 1 ≤ _; omega)
      rw [cel_arr (by rw [ek]; omega), ael_i (by rw [ek]; omega), el]
      simp only [ei, if_pos]; rfl
    · refine fin (len.toNat, .inr (.inl (fun _ => 0))) (fun c9 qa => ?_) (fun _ => rfl) (by show len.toNat * 8 ≤ _; omega)
      rw [cel_arr (by rw [ek]; omega), ael_l (by rw [ek]), el]
      simp only [ei, if_pos]; rfl
  next => exact hh.elim
theorem s_newq {K : MKey} {d : Nat} {X : Option (Nat × (Nat → Int))} {P : Out → Mh → Prop} {pc : Nat} {q : Pd} {ci idx : Nat} (hci : decide (ci < 12) = true) (hao : rX ci ∈ aoW) (i1 : Nat) (w1 : lw_tbl[i1]? = some (.classLink (kY K).cls idx (rX ci)))
    (hd : decode (kB K) pc = .ok (.anewarray idx, 3)) (hq : Imp q (Ru K d X P (pc + 3))) : Imp (o_newa (30 + ci) q) (Ru K d X P pc) := by
  intro L S h c sl hh l p e R s m args below meth cd D A ad0 dm0 C ad cA H locs ls cells slots hR hS he hL hSk hc hs
  obtain ⟨cx, cb, cr, cml, cown, cts, clk, cnm, cet, cK, cst, cfr, clo, cce, csl, cA9, cXs⟩ := id C
  have hci := of_decide_eq_true hci
  unfold o_newa at hh
  split at hh
  next len S' =>
    obtain ⟨l0, l1, hc1, hs1, n, hn0, hn, hh⟩ := hh
    obtain ⟨⟨dom, h1, h2, hP, hD⟩, -⟩ := id hR
    have ecl : (Int32.ofInt len).toNatClampNeg = len.toNat := i32_cl l0 (by omega)
    have hneg : ¬ Int32.ofInt len < 0 := fun z => by
      have := (i32_lt (x := len) (y := 0) ⟨by omega, by omega⟩ ⟨by decide, by decide⟩).mp z
      omega
    refine va_newq (C := rX ci) cx cb cown (ugw cts i1 w1 rfl) (cK.2.2.2.1 _ hao) cK.1 hP hD hS cA9 hneg ecl (by omega) (by omega) (by omega) hd (fun qa c9 H1 hK1 hP1 hD1 hS1 => ?_)
    have hk9 := hK1.2 0 (c9, .object (rX ci)) rfl
    have ek : Kd (alc h n (30 + ci) len) n = 30 + ci := by rw [Kd_alc, if_pos rfl]
    have el : Ln (alc h n (30 + ci) len) n = len := by rw [Ln_alc, if_pos rfl]
    have ei : ∀ k, Mr (alc h n (30 + ci) len) n k = none := fun k => by rw [Mr_alc, if_pos rfl]
    have e9 : cel (fun m => if m = n then c9 else cA m) (fun m => if m = n then qa else ad m) (alc h n (30 + ci) len) n = .inl (c9, len.toNat, .inr (.inr (.inr (.inr (fun _ => none))))) := by
      rw [cel_arr (by rw [ek]; omega), ael_r (by rw [ek]; omega), el]
      simp only [ei, if_pos]; rfl
    obtain ⟨r1, r2⟩ := alc_rep (len := len) (c9 := c9) hR hn0 hn (by omega : 0 < 30 + ci) (by omega) ⟨by omega, by omega⟩ h1 h2 (fun z => by rw [aty_obj]; exact hk9) e9 hP1 hD1
    have hSk2 := (show Sok h S' from sok_tl hSk).moved r2
    have K9 := hq L (pR (some n) :: S') (alc h n (30 + ci) len) (c - 1) (sl - len.toNat) hh l p e R s m args below meth cd D A ad0 dm0 C (fun m => if m = n then qa else ad m) (fun m => if m = n then c9 else cA m) H1 locs ls (cells + 1) (slots + len.toNat) r1 hS1
      (fun m hm => ⟨(r2 m (he m hm).1).1, (r2 m (he m hm).1).2.trans (he m hm).2⟩) (hL.moved r2) (sok_cons (fun m em => by cases em; exact Or.inr (by rw [Kd_alc, if_pos rfl]; omega)) hSk2.1) (by omega) (by omega)
    rw [List.map_cons, hSk2.2, show tv (fun m => if m = n then qa else ad m) (pR (some n)) = .ref qa from by simp [tv, va_rf]] at K9
    exact K9
  next => exact hh.elim
-- ends
theorem s_iret {K : MKey} {d : Nat} {X : Option (Nat × (Nat → Int))} {P : Out → Mh → Prop} {pc : Nat} (hr : kR K = some .int) (hd : decode (kB K) pc = .ok (.ireturn, 1)) : Imp (o_iret P) (Ru K d X P pc) := by
  intro L S h c sl hh l p e R s m args below meth cd D A ad0 dm0 C ad cA H locs ls cells slots hR hS he hL hSk hc hs
  obtain ⟨cx, cb, cr, cml, cown, cts, clk, cnm, cet, cK, cst, cfr, clo, cce, csl, cA9, cXs⟩ := id C
  unfold o_iret at hh
  split at hh
  next x =>
    refine W.widen (k := kC K) (n := kS K) (by omega) (by omega) (vx_ret ?_)
    exact W.iret (v := Int32.ofInt x) cx cb (cr.trans hr) (fun t ht hW => ⟨⟨some (pI x), h, ad, cA, rfl, hh, fun w ew => by cases ew; exact sok_hd hSk, by rw [ht]; exact hR.moved hW.alike, he⟩, hS.F ht⟩) hS.2.2 hd clk
  next => exact hh.elim
theorem s_zret {K : MKey} {d : Nat} {X : Option (Nat × (Nat → Int))} {P : Out → Mh → Prop} {pc : Nat} (hr : kR K = some .boolean) (hd : decode (kB K) pc = .ok (.ireturn, 1)) : Imp (o_zret P) (Ru K d X P pc) := by
  intro L S h c sl hh l p e R s m args below meth cd D A ad0 dm0 C ad cA H locs ls cells slots hR hS he hL hSk hc hs
  obtain ⟨cx, cb, cr, cml, cown, cts, clk, cnm, cet, cK, cst, cfr, clo, cce, csl, cA9, cXs⟩ := id C
  unfold o_zret at hh
  split at hh
  next x =>
    refine W.widen (k := kC K) (n := kS K) (by omega) (by omega) (vx_ret ?_)
    exact W.zret (v := Int32.ofInt x) cx cb (cr.trans hr) (nar_b hh.1).1 (fun t ht hW => ⟨⟨some (pI x), h, ad, cA, rfl, hh.2, fun w ew => by cases ew; exact sok_hd hSk, by rw [ht]; exact hR.moved hW.alike, he⟩, hS.F ht⟩) hS.2.2 hd clk
  next => exact hh.elim
theorem s_aret {K : MKey} {d : Nat} {X : Option (Nat × (Nat → Int))} {P : Out → Mh → Prop} {pc : Nat} (n9 : String) (hr : kR K = some (.object n9)) (hd : decode (kB K) pc = .ok (.areturn, 1)) : Imp (o_aret P) (Ru K d X P pc) := by
  intro L S h c sl hh l p e R s m args below meth cd D A ad0 dm0 C ad cA H locs ls cells slots hR hS he hL hSk hc hs
  obtain ⟨cx, cb, cr, cml, cown, cts, clk, cnm, cet, cK, cst, cfr, clo, cce, csl, cA9, cXs⟩ := id C
  unfold o_aret at hh
  split at hh
  next r =>
    refine W.widen (k := kC K) (n := kS K) (by omega) (by omega) (vx_ret ?_)
    exact W.aret (v := va_rf (r.map ad)) cx cb (cr.trans hr) (Or.inl ⟨_, rfl⟩) (by cases r <;> simp [va_rf]) (fun t ht hW => ⟨⟨some (pR r), h, ad, cA, rfl, hh, fun w ew => by cases ew; exact sok_hd hSk, by rw [ht]; exact hR.moved hW.alike, he⟩, hS.F ht⟩) hS.2.2 hd clk
  next => exact hh.elim
theorem s_vret {K : MKey} {d : Nat} {X : Option (Nat × (Nat → Int))} {P : Out → Mh → Prop} {pc : Nat} (hr : kR K = none) (hd : decode (kB K) pc = .ok (.return_, 1)) : Imp (o_vret P) (Ru K d X P pc) := by
  intro L S h c sl hh l p e R s m args below meth cd D A ad0 dm0 C ad cA H locs ls cells slots hR hS he hL hSk hc hs
  obtain ⟨cx, cb, cr, cml, cown, cts, clk, cnm, cet, cK, cst, cfr, clo, cce, csl, cA9, cXs⟩ := id C
  unfold o_vret at hh
  split at hh
  next =>
    refine W.widen (k := kC K) (n := kS K) (by omega) (by omega) (vx_ret ?_)
    exact W.vret cx cb (cr.trans hr) (fun t ht hW => ⟨⟨none, h, ad, cA, rfl, hh, fun w ew => (by cases ew), by rw [ht]; exact hR.moved hW.alike, he⟩, hS.F ht⟩) hS.2.2 hd clk
  next => exact hh.elim
-- throw new E(text)
def thW (own : String) (ic : Nat) (E : String) : List Cond := vx_atS own ic E ["java/lang/RuntimeException", "java/lang/Exception"]
theorem s_throw {K : MKey} {d : Nat} {X : Option (Nat × (Nat → Int))} {P : Out → Mh → Prop} {pc : Nat} {E text : String} {ik is ic : Nat} (hE : Bundle.fit E = true) (i1 i2 : Nat) (w1 : lw_tbl[i1]? = some (.classLink (kY K).cls ik E)) (w2 : lw_tbl[i2]? = some (.initialized E)) (hs0 : ((kY K).cls, is, text) ∈ strW)
    (hat : ∀ w ∈ (thW (kY K).cls ic E).filter goodWord, w ∈ UG) (hat2 : ∀ w ∈ (thW (kY K).cls ic E).filter (fun w => !goodWord w), w ∈ nwW) (hot : ∀ w ∈ thW (kY K).cls ic E, vx_ot w = true) (hh0 : kH K = [])
    (d0 : decode (kB K) pc = .ok (.new ik, 3)) (d3 : decode (kB K) (pc + 3) = .ok (.dup, 1)) (d4 : decode (kB K) (pc + 4) = .ok (.ldc_w is, 3)) (d7 : decode (kB K) (pc + 7) = .ok (.invokespecial ic, 3)) (d10 : decode (kB K) (pc + 10) = .ok (.athrow, 1)) : Imp (fun L S h c s => 10 ≤ d ∧ o_throw E P L S h c s) (Ru K d X P pc) := by
  intro L S h c sl hh l p e R s m args below meth cd D A ad0 dm0 C ad cA H locs ls cells slots hR hS he hL hSk hc hs
  obtain ⟨cx, cb, cr, cml, cown, cts, clk, cnm, cet, cK, cst, cfr, clo, cce, csl, cA9, cXs⟩ := id C
  obtain ⟨hdd, rfl, hc1, hs1, hP9⟩ := hh
  obtain ⟨sa, hsa⟩ := cK.2.2.1 _ hs0
  refine vx_throwSW (names := ["java/lang/RuntimeException", "java/lang/Exception"]) (sa := sa) cx cb cst cown hE (by decide +kernel) (ugw cts i1 w1 rfl) (ugw cts i2 w2 rfl) hsa ?_ ?_ cK.2.2.2.2.2.2.1 cK.2.2.2.2.2.2.2 hS (hL.2.1.1.trans cml.symm) d0 d3 d4 d7 d10 (by rw [cet, hh0]; intro x hx; cases hx) (by simp; omega) (by simp; omega) (by omega) (by omega) clk ?_ hS.2.2 (by omega) (by omega)
  · intro w hw
    by_cases hg : goodWord w = true
    · exact cts w (hat w (List.mem_filter.mpr ⟨hw, hg⟩))
    · have h9 := cK.2.1 w (hat2 w (List.mem_filter.mpr ⟨hw, by simp [hg]⟩))
      have hot9 := hot w hw
      have : w.onTables = true := by
        unfold vx_ot at hot9
        rcases Bool.or_eq_true_iff.mp hot9 with z | z
        · exact z
        · exact absurd z hg
      exact va_Nw.use this h9
  · intro w hw
    rcases List.mem_cons.mp hw with rfl | hw
    · rfl
    · rcases List.mem_cons.mp hw with rfl | hw
      · rfl
      · exact hot w hw
  · intro t hal hsz hq
    exact ⟨⟨h, ad, cA, hP9, (hR.grow hq).moved hal, he⟩, Nat.le_trans hS.1 hsz, fun q9 h9 h8 => (hq q9 (Nat.lt_of_lt_of_le h9 hS.1)).trans (hS.2.1 q9 h9 h8)⟩
-- calls
def MkB (K : MKey) (n : Nat) : Prop := codeW K ∈ UG ∧ Cond.initialized (kY K).cls ∈ UG ∧ ((kY K).cls ≠ "java/lang/invoke/MethodHandle" ∧ (kY K).cls ≠ "java/lang/invoke/VarHandle") ∧ (parseMethodDescriptor (kY K).desc).map (fun d => d.parameters.length) = some n ∧ kL K ≤ 12
theorem MkB.good {K : MKey} {n : Nat} (h : MkB K n) : GoodIn UG (kW K) := fun w hw => (List.mem_cons.mp hw).elim (fun e => by rw [e]; exact ug_good _ h.1) (fun q => ug_good w q)
theorem MkB.len {K : MKey} {n : Nat} (h : MkB K n) : ∀ sig, parseMethodDescriptor (kY K).desc = some sig → n = sig.parameters.length := fun sig hs => by
  have h2 := h.2.2.2.1
  rw [hs] at h2
  exact (Option.some.inj h2).symm
theorem codeW_nil {K : MKey} (h : kH K = []) : codeW K = .code (kY K) (kB K) (kL K) (kR K) := by unfold codeW; rw [h]
theorem MkB.callB {K : MKey} {n : Nat} (h : MkB K n) (hh : kH K = []) {R : Room} {s : State} {args : Array Value} {own : String} {idx d : Nat} (cts : ∀ w ∈ UG, w.before args s = true) (hl : Cond.methodLink own idx (kY K) ∈ UG) (hd : 1 ≤ d) (hf : d ≤ R.frames) (hlo : 40 * d ≤ R.locals) :
    CallB R s args own idx (kY K) (kB K) (kL K) (kR K) (kW K) (kRm K (d - 1)) (kC K) (kS K) n := by
  have hcw := codeW_nil hh
  have hk := h.2.2.2.2
  refine ⟨rfl, rfl, by show d - 1 + 1 ≤ _; omega, by show 8 + (kL K + 11) + 40 * (d - 1) ≤ _; omega, pay_in cts h.good, by rw [← hcw]; exact List.mem_cons_self, by rw [← hcw]; exact cts _ h.1, cts _ h.2.1, h.2.2.1, h.len, cts _ hl⟩
theorem va_to_vx {p : Program} {l : Launch} {e : Env} {R : Room} {s : State} {m : MethodId} {args : Array Value} {below : List Frame} {meth : Method} {c : Code} {H : Heap} {locs : List Loc} {cells slots mc ms : Nat} {g : JFrame} {rest : List Value} {Qa : State → Outcome → State → Prop} {XC : String → State → State → Prop} {free : Addr → Prop}
    (hr : va_Run p l e R s m args below meth c H locs cells slots mc ms g rest Qa free) : vx_Run p l e R s m args below meth c H locs cells slots mc ms g rest Qa XC free := fun T hT X => Or.inl (hr T hT X)
theorem met_of {l : Launch} {y : MethodName} {ws : List Cond} {rm : Room} {Pc : Array Value → State → Prop} {Qc : Array Value → State → Outcome → State → Prop} {XC : String → State → State → Prop} {mc ms : Nat} {free : Addr → Prop} (h : vx_Met l y ws rm Pc Qc XC mc ms free) (hx : ∀ E st t, ¬ XC E st t) : Met l y ws rm Pc Qc mc ms free :=
  MetFree.mono h (fun _ _ q => q) (fun _ _ _ _ _ _ => trivial) (fun a st o t _ q => q.elim id (fun ⟨q, _, E, ce, L, q1, _⟩ => (hx E st t q1).elim))
/-- what comes behind a run: the frame is at the place behind the call, or the exception is over it -/
theorem run_W {K : MKey} {d : Nat} {X : Option (Nat × (Nat → Int))} {P : Out → Mh → Prop} {pc : Nat} {q : Pd} {Xh : String → Pd} {K' : MKey} (hq : Imp q (Ru K d X P (pc + 3)))
    {L : Lcs} {S S' : List MV} {h : Mh} {c sl : Nat} {l : Launch} {p : Program} {e : Env} {R : Room} {s : State} {m : MethodId} {args : Array Value} {below : List Frame} {meth : Method} {cd : Code} {D : va_G} {A : Nat → Prop} {ad0 : Nat → Nat} {dm0 : Nat → Prop} (C : Cx K d X l p R s m args meth cd D A ad0 dm0)
    {ad : Nat → Nat} {cA : Nat → ClassId} {H : Heap} {locs : List Loc} {ls : Array Slot} {cells slots : Nat} (hR : Rep D cA ad h H A s) (hS : va_S A s.heap H locs) (he : ∀ n, dm0 n → dmh h n ∧ ad n = ad0 n) (hL : Lok ad h L ls (kL K)) (hSk : Sok h S') (hc : cells + c ≤ kC K) (hs : slots + sl ≤ kS K) (hc2 : kC K' ≤ c) (hs2 : kS K' ≤ sl)
    (hX : ∀ (E : String) (h1 : Mh) (ad1 : Nat → Nat) (cA1 : Nat → ClassId) (H1 : Heap) (locs1 : List Loc) (ce : Cell) (q9 : Addr), Xh E L S' h1 (c - kC K') (sl - kS K') → Rep D cA1 ad1 h1 H1 A s → va_S A s.heap H1 locs1 → (∀ n, dm0 n → dmh h1 n ∧ ad1 n = ad0 n) → Lok ad1 h1 L ls (kL K) → H1[q9]? = some ce → ce.vm = .none → s.vm.findClass E = some ce.cls →
      vx_W p l e R s m args below meth cd H1 locs1 (cells + kC K') (slots + kS K') (vx_MQ below (Qn D P ad0 dm0 A) (Xn D P ad0 dm0 A) args s (kC K) (kS K) A) (F0 m pc ls (S'.map (tv ad1))) q9)
    (hr : vx_Run p l e R s m args below meth cd H locs cells slots (kC K') (kS K') (F0 m pc ls (S.map (tv ad))) (S'.map (tv ad)) ((Qn D (o_aft Xh q L S' (c - kC K') (sl - kS K')) ad (dmh h) (Ar ad h H.size)) #[]) (Xn D (o_aft Xh q L S' (c - kC K') (sl - kS K')) ad (dmh h) (Ar ad h H.size)) (Ar ad h H.size)) :
    W p l e R s m args below meth cd H locs cells slots (vx_MQ below (Qn D P ad0 dm0 A) (Xn D P ad0 dm0 A) args s (kC K) (kS K) A) (F0 m pc ls (S.map (tv ad))) := by
  have cA9 := C.2.2.2.2.2.2.2.2.2.2.2.2.2.2.2.1
  have hAr : ∀ q9, Ar ad h H.size q9 → A q9 := fun q9 h9 => h9.elim (fun ⟨n, hn, en⟩ => by rw [← en]; exact hR.inA hn) (fun z => cA9 q9 (Nat.le_trans hS.1 z))
  intro T hT Xs
  rcases hr T hT Xs with ⟨v, st₀, t, T', L9, h0, X', hL9, e1, e2, ⟨⟨v9, h1, ad1, cA1, ev, hp, hov, hR1, he1⟩, hF⟩, st⟩ | ⟨q9, st₀, t, T', L9, E, ce, h0, X', hL9, e1, e2, ⟨⟨h1, ad1, cA1, hp, hR1, he1⟩, hF⟩, hce, hcv, hcl, st⟩
  · have k3 := (vx_keep h0 e1 hS (fun q9 _ z => hAr q9 z) hAr hL9 hF).2.2
    have hal : t.vm.Alike s.vm := by rw [← e2]; exact X'.warmed.alike.symm
    have hR2 : Rep D cA1 ad1 h1 T'.heap A s := by rw [e1]; exact (hR1.wider hAr).moved hal
    have he2 : ∀ n, dm0 n → dmh h1 n ∧ ad1 n = ad0 n := fun n hn => ⟨(he1 n (he n hn).1).1, (he1 n (he n hn).1).2.trans (he n hn).2⟩
    have hSk2 := hSk.moved he1
    cases ev
    have K9 : W p l e R s m args below meth cd T'.heap (locs ++ L9) (cells + kC K') (slots + kS K') (vx_MQ below (Qn D P ad0 dm0 A) (Xn D P ad0 dm0 A) args s (kC K) (kS K) A) (F0 m (pc + 3) ls ((v9.map (tv ad1)).toList ++ S'.map (tv ad))) := by
      cases v9 with
      | none =>
        have := hq L S' h1 _ _ hp l p e R s m args below meth cd D A ad0 dm0 C ad1 cA1 T'.heap (locs ++ L9) ls (cells + kC K') (slots + kS K') hR2 k3 he2 (hL.moved he1) hSk2.1 (by omega) (by omega)
        rw [hSk2.2] at this
        exact this
      | some w =>
        have := hq L (w :: S') h1 _ _ hp l p e R s m args below meth cd D A ad0 dm0 C ad1 cA1 T'.heap (locs ++ L9) ls (cells + kC K') (slots + kS K') hR2 k3 he2 (hL.moved he1) (sok_cons (hov w rfl) hSk2.1) (by omega) (by omega)
        rw [List.map_cons, hSk2.2] at this
        exact this
    obtain ⟨t2, a1, b1⟩ := K9 T' rfl X'
    exact ⟨t2, st t2 a1, b1⟩
  · have k3 := (vx_keep h0 e1 hS (fun q9 _ z => hAr q9 z) hAr hL9 hF).2.2
    have hal : t.vm.Alike s.vm := by rw [← e2]; exact X'.warmed.alike.symm
    have hR2 : Rep D cA1 ad1 h1 T'.heap A s := by rw [e1]; exact (hR1.wider hAr).moved hal
    have he2 : ∀ n, dm0 n → dmh h1 n ∧ ad1 n = ad0 n := fun n hn => ⟨(he1 n (he n hn).1).1, (he1 n (he n hn).1).2.trans (he n hn).2⟩
    have hSk2 := hSk.moved he1
    have K9 := hX E h1 ad1 cA1 T'.heap (locs ++ L9) ce q9 hp hR2 k3 he2 (hL.moved he1) (by rw [e1]; exact hce) hcv hcl
    rw [hSk2.2] at K9
    obtain ⟨t2, a1, b1⟩ := K9 T' rfl X'
    exact ⟨t2, st.trans a1, b1⟩
/-- no handler in this method: it goes up -/
theorem up_X {K : MKey} {d : Nat} {X : Option (Nat × (Nat → Int))} {P : Out → Mh → Prop} {pc : Nat} (hh : kH K = []) {L : Lcs} {S' : List MV} {c sl k1 k2 : Nat} {l : Launch} {p : Program} {e : Env} {R : Room} {s : State} {m : MethodId} {args : Array Value} {below : List Frame} {meth : Method} {cd : Code} {D : va_G} {A : Nat → Prop} {ad0 : Nat → Nat} {dm0 : Nat → Prop} (C : Cx K d X l p R s m args meth cd D A ad0 dm0) {ls : Array Slot} {cells slots : Nat} (hc : cells + k1 ≤ kC K) (hs : slots + k2 ≤ kS K) :
    ∀ (E : String) (h1 : Mh) (ad1 : Nat → Nat) (cA1 : Nat → ClassId) (H1 : Heap) (locs1 : List Loc) (ce : Cell) (q9 : Addr), o_up P E L S' h1 (c - k1) (sl - k2) → Rep D cA1 ad1 h1 H1 A s → va_S A s.heap H1 locs1 → (∀ n, dm0 n → dmh h1 n ∧ ad1 n = ad0 n) → Lok ad1 h1 L ls (kL K) → H1[q9]? = some ce → ce.vm = .none → s.vm.findClass E = some ce.cls →
      vx_W p l e R s m args below meth cd H1 locs1 (cells + k1) (slots + k2) (vx_MQ below (Qn D P ad0 dm0 A) (Xn D P ad0 dm0 A) args s (kC K) (kS K) A) (F0 m pc ls (S'.map (tv ad1))) q9 := by
  obtain ⟨cx, cb, cr, cml, cown, cts, clk, cnm, cet, cK, cst, cfr, clo, cce, csl, cA9, cXs⟩ := id C
  intro E h1 ad1 cA1 H1 locs1 ce q9 hp hR hS he hL hce hcv hcl
  exact vx_out (by rw [cet, hh]; intro x hx; cases hx) clk hce hcv hcl (fun t ht hal => ⟨⟨h1, ad1, cA1, hp, by rw [ht]; exact hR.moved hal, he⟩, hS.F ht⟩) hS.2.2 hc hs
theorem blind {as : List Value} {B : State → Prop} (hB : ∀ (a : Array Value) (U : State) (g : JFrame) (mk : MethodId), B U → B (U.calling g mk a)) : FrameBlind (va_Pc as B) := fun a U g mk q => ⟨q.1, hB a U g mk q.2⟩
theorem blindR {D : va_G} {cA : Nat → ClassId} {ad : Nat → Nat} {h : Mh} {sz : Nat} (a : Array Value) (U : State) (g : JFrame) (mk : MethodId) (q : U.heap.size = sz ∧ Rep D cA ad h U.heap (Ar ad h sz) U ∧ Kx D (Ar ad h sz) U U.heap) :
    (U.calling g mk a).heap.size = sz ∧ Rep D cA ad h (U.calling g mk a).heap (Ar ad h sz) (U.calling g mk a) ∧ Kx D (Ar ad h sz) (U.calling g mk a) (U.calling g mk a).heap := by
  obtain ⟨q1, q2, q3⟩ := q
  exact ⟨q1, q2.moved (U := U.calling g mk a) (Vm.Alike.refl U.vm), q3.at (U := U.calling g mk a) (State.WarmedH.refl U) (fun _ _ _ => rfl) (fun _ z => z)⟩
theorem entB {K : MKey} {d : Nat} {X : Option (Nat × (Nat → Int))} {h : Mh} {l : Launch} {p : Program} {R : Room} {s : State} {m : MethodId} {args : Array Value} {meth : Method} {cd : Code} {D : va_G} {A : Nat → Prop} {ad0 : Nat → Nat} {dm0 : Nat → Prop} (C : Cx K d X l p R s m args meth cd D A ad0 dm0) {ad : Nat → Nat} {cA : Nat → ClassId} {H : Heap} {locs : List Loc} (hR : Rep D cA ad h H A s) (hS : va_S A s.heap H locs) :
    ∀ U : State, U.heap = H → s.WarmedH U.vm → U.heap.size = H.size ∧ Rep D cA ad h U.heap (Ar ad h H.size) U ∧ Kx D (Ar ad h H.size) U U.heap := by
  obtain ⟨cx, cb, cr, cml, cown, cts, clk, cnm, cet, cK, cst, cfr, clo, cce, csl, cA9, cXs⟩ := id C
  intro U hU hW
  refine ⟨by rw [hU], ?_, ?_⟩
  · rw [hU]
    obtain ⟨⟨dom, h1, h2, h3, h4⟩, r⟩ := hR.moved hW.alike
    refine ⟨⟨dom, h1, h2, h3, h4.1, fun k q hq => ?_⟩, r⟩
    rw [wsO, List.getElem?_map] at hq
    cases hx : dom[k]? with
    | none => rw [hx] at hq; cases hq
    | some n =>
      rw [hx] at hq
      cases hq
      exact Or.inl ⟨n, (h2 n).mp (List.mem_of_getElem? hx), rfl⟩
  · rw [hU]
    exact cK.at hW (fun a ha1 ha2 => hS.2.1 a ha1 ha2) (fun q hq => hq.elim (fun ⟨n, hn, en⟩ => by rw [← en]; exact hR.inA hn) (fun z => cA9 q (Nat.le_trans hS.1 z)))
theorem take_drop_map {S : List MV} {na : Nat} {f : MV → Value} : S.map f = (((S.take na).reverse).map f).reverse ++ (S.drop na).map f := by
  rw [List.map_reverse, List.reverse_reverse, ← List.map_append, List.take_append_drop]
theorem cat_sum {S : List MV} {ad : Nat → Nat} {n : Nat} (h : S.length ≤ n) : ((S.map (tv ad)).map fun v => v.category).sum ≤ 2 * n := by
  induction S generalizing n with
  | nil => simp
  | cons v t ih =>
    have h9 := ih (n := t.length) (Nat.le_refl _)
    have hv : (tv ad v).category ≤ 2 := by
      match v with
      | .inl _ => exact Nat.le_of_ble_eq_true rfl
      | .inr (.inl none) => exact Nat.le_of_ble_eq_true rfl
      | .inr (.inl (some _)) => exact Nat.le_of_ble_eq_true rfl
      | .inr (.inr _) => exact Nat.le_of_ble_eq_true rfl
    simp only [List.map_cons, List.sum_cons, List.length_cons] at h ⊢
    omega
/-- are all of them of one slot -/
def all1 : List MV → Bool
  | [] => true
  | .inr (.inr _) :: _ => false
  | _ :: t => all1 t
theorem all1_of : ∀ {S : List MV}, all1 S = true → ∀ v ∈ S, cat1 v
  | [], _, v, hv => by cases hv
  | .inl x :: t, h, v, hv => by
    rcases List.mem_cons.mp hv with rfl | hv
    · trivial
    · exact all1_of (S := t) h v hv
  | .inr (.inl r) :: t, h, v, hv => by
    rcases List.mem_cons.mp hv with rfl | hv
    · trivial
    · exact all1_of (S := t) h v hv
theorem all1_ok {S : List MV} {h : Mh} (h1 : all1 S = true) (hS : Sok h S) : ∀ v ∈ S, okv h v ∧ cat1 v := fun v hv => ⟨hS v hv, all1_of h1 v hv⟩
theorem sok_take {S : List MV} {h : Mh} {n : Nat} (hS : Sok h S) : Sok h (S.take n).reverse := fun v hv => hS v (List.mem_of_mem_take (List.mem_reverse.mp hv))
theorem sok_drop {S : List MV} {h : Mh} {n : Nat} (hS : Sok h S) : Sok h (S.drop n) := fun v hv => hS v (List.mem_of_mem_drop hv)
/-- a static call of a method without handlers, from a method without handlers -/
theorem s_callS {K : MKey} {d : Nat} {X : Option (Nat × (Nat → Int))} {P : Out → Mh → Prop} {pc : Nat} {q : Pd} {K' : MKey} {na idx : Nat} (hh0 : kH K = []) (hM : MkB K' na) (hh' : kH K' = []) (hst : Cond.static (kY K') ∈ UG) (hlk : Cond.methodLink (kY K).cls idx (kY K') ∈ UG)
    (hd : decode (kB K) pc = .ok (.invokestatic idx, 3)) (hq : Imp q (Ru K d X P (pc + 3))) : Imp (fun L S h c s => all1 (S.take na) = true ∧ o_call d K' na (o_up P) q L S h c s) (Ru K d X P pc) := by
  intro L S h c sl hh l p e R s m args below meth cd D A ad0 dm0 C ad cA H locs ls cells slots hR hS he hL hSk hc hs
  obtain ⟨cx, cb, cr, cml, cown, cts, clk, cnm, cet, cK, cst, cfr, clo, cce, csl, cA9, cXs⟩ := id C
  obtain ⟨ha1, hna, hlen, hd1, hc2, hs2, hct⟩ := hh
  have hT : all1 (S.take na) = true → ∀ v ∈ (S.take na).reverse, okv h v ∧ cat1 v := fun z v hv => ⟨sok_take hSk v hv, all1_of z v (List.mem_reverse.mp hv)⟩
  refine run_W hq (S' := S.drop na) (Xh := o_up P) (K' := K') C hR hS he hL (sok_drop hSk) hc hs hc2 hs2 (up_X hh0 C (by omega) (by omega)) ?_
  exact vx_runS (As := ((S.take na).reverse).map (tv ad)) ⟨cx, cb, cml, cown, cts⟩ (hct l D cA ad H.size cst (hT ha1)) ⟨hM.callB hh' cts hlk hd1 cfr clo, cts _ hst⟩ ⟨blind blindR, fun U hU hW => ⟨rfl, entB C hR hS U hU hW⟩⟩ rfl (by simp; omega) hL.2.1.1 take_drop_map (lv_room (Nat.le_trans (cat_sum (n := 4) (by simp; omega)) (Nat.le_refl 8))) hd ⟨by omega, by omega⟩
/-- a static call of a nest mate's private method that never throws -/
theorem s_callN {K : MKey} {d : Nat} {X : Option (Nat × (Nat → Int))} {P : Out → Mh → Prop} {pc : Nat} {q : Pd} {K' : MKey} {na idx : Nat} (host : String) (hM : MkB K' na) (hh' : kH K' = []) (hst : Cond.static (kY K') ∈ UG) (hlk : Cond.methodLinkNest (kY K).cls idx (kY K') host ∈ nwW)
    (hd : decode (kB K) pc = .ok (.invokestatic idx, 3)) (hq : Imp q (Ru K d X P (pc + 3))) : Imp (fun L S h c s => all1 (S.take na) = true ∧ o_call d K' na (fun _ _ _ _ _ _ => False) q L S h c s) (Ru K d X P pc) := by
  intro L S h c sl hh l p e R s m args below meth cd D A ad0 dm0 C ad cA H locs ls cells slots hR hS he hL hSk hc hs
  obtain ⟨cx, cb, cr, cml, cown, cts, clk, cnm, cet, cK, cst, cfr, clo, cce, csl, cA9, cXs⟩ := id C
  obtain ⟨ha1, hna, hlen, hd1, hc2, hs2, hct⟩ := hh
  have hT : ∀ v ∈ (S.take na).reverse, okv h v ∧ cat1 v := fun v hv => ⟨sok_take hSk v hv, all1_of ha1 v (List.mem_reverse.mp hv)⟩
  have hcw := codeW_nil hh'
  have hk := hM.2.2.2.2
  refine run_W hq (S' := S.drop na) (Xh := fun _ _ _ _ _ _ => False) (K' := K') C hR hS he hL (sok_drop hSk) hc hs hc2 hs2 (fun _ _ _ _ _ _ _ _ z => z.elim) (va_to_vx ?_)
  have cB : va_CN R s args (kY K).cls idx (kY K') host (kB K') (kL K') (kR K') (kW K') (kRm K' (d - 1)) (kC K') (kS K') na :=
    ⟨⟨rfl, rfl, by show d - 1 + 1 ≤ _; omega, by show 8 + (kL K' + 11) + 40 * (d - 1) ≤ _; omega, pay_in cts hM.good, by rw [← hcw]; exact List.mem_cons_self⟩, by rw [← hcw]; exact cts _ hM.1, cts _ hM.2.1, hM.2.2.1, hM.len, va_Nw.use rfl (cK.2.1 _ hlk)⟩
  exact va_runSN (As := ((S.take na).reverse).map (tv ad)) ⟨cx, cb, cml, cown, cts⟩ (met_of (hct l D cA ad H.size cst hT) (fun E st t z => by obtain ⟨⟨_, _, _, z, _⟩, _⟩ := z; exact z)) ⟨cB, cts _ hst, trivial⟩ ⟨blind blindR, fun U hU hW => ⟨rfl, entB C hR hS U hU hW⟩⟩ rfl (by simp; omega) hL.2.1.1 take_drop_map (lv_room (Nat.le_trans (cat_sum (n := 4) (by simp; omega)) (Nat.le_refl 8))) hd ⟨by omega, by omega⟩
theorem drop_rcv {S : List MV} {na a : Nat} (hrc : (match S.drop na with | .inr (.inl r) :: _ => r | _ => none) = some a) : S.drop na = pR (some a) :: S.drop (na + 1) := by
  split at hrc
  next r t e =>
    subst hrc
    rw [e]
    congr 1
    have := congrArg (List.drop 1) e
    simpa using this.symm
  next => cases hrc
theorem take_succ_rev {S : List MV} {na a : Nat} (hr : S.drop na = pR (some a) :: S.drop (na + 1)) : (S.take (na + 1)).reverse = pR (some a) :: (S.take na).reverse := by
  have h1 : S[na]? = some (pR (some a)) := by
    have := congrArg (fun l : List MV => l[0]?) hr
    simpa using this
  rw [List.take_add_one, h1]
  simp
theorem stack_rcv {S : List MV} {na a : Nat} {ad : Nat → Nat} (hr : S.drop na = pR (some a) :: S.drop (na + 1)) : S.map (tv ad) = (((S.take na).reverse).map (tv ad)).reverse ++ .ref (ad a) :: (S.drop (na + 1)).map (tv ad) := by
  have := take_drop_map (S := S) (na := na) (f := tv ad)
  rw [hr] at this
  exact this
/-- a virtual call -/
theorem s_callV {K : MKey} {d : Nat} {X : Option (Nat × (Nat → Int))} {P : Out → Mh → Prop} {pc : Nat} {q : Pd} {K' : MKey} {ci na idx : Nat} (hh0 : kH K = []) (hM : MkB K' na) (hh' : kH K' = []) (hci : decide (ci < 12) = true) (hcl : (kY K').cls = rX ci) (hin : Cond.instanceMethod (kY K') ∈ UG) (hse : Cond.selects (rX ci) (kY K') (kY K') ∈ UG) (hlk : Cond.methodLink (kY K).cls idx (kY K') ∈ UG)
    (hd : decode (kB K) pc = .ok (.invokevirtual idx, 3)) (hq : Imp q (Ru K d X P (pc + 3))) : Imp (fun L S h c s => all1 (S.take (na + 1)) = true ∧ o_callV d K' ci na (o_up P) q L S h c s) (Ru K d X P pc) := by
  intro L S h c sl hh l p e R s m args below meth cd D A ad0 dm0 C ad cA H locs ls cells slots hR hS he hL hSk hc hs
  obtain ⟨cx, cb, cr, cml, cown, cts, clk, cnm, cet, cK, cst, cfr, clo, cce, csl, cA9, cXs⟩ := id C
  have hci := of_decide_eq_true hci
  obtain ⟨ha1, ⟨a, hrc, hka⟩, hna, hlen, hd1, hc2, hs2, hct⟩ := hh
  have hdr := drop_rcv hrc
  have hT : ∀ v ∈ (S.take (na + 1)).reverse, okv h v ∧ cat1 v := fun v hv => ⟨sok_take hSk v hv, all1_of ha1 v (List.mem_reverse.mp hv)⟩
  have hM9 := hct l D cA ad H.size cst hT
  rw [take_succ_rev hdr] at hM9
  refine run_W hq (S' := S.drop (na + 1)) (Xh := o_up P) (K' := K') C hR hS he hL (sok_drop hSk) hc hs hc2 hs2 (up_X hh0 C (by omega) (by omega)) ?_
  obtain ⟨dom, q0, h1, h2, hP, hD, e1, e2⟩ := hR.mem (n := a) (by omega)
  rw [cel_obj hka hci] at e2
  exact vx_runV (b := ad a) (As := ((S.take na).reverse).map (tv ad)) ⟨cx, cb, cml, cown, cts⟩ hM9 ⟨hM.callB hh' cts hlk hd1 cfr clo, cts _ hin, cts _ hse⟩ ⟨blind blindR, va_recv cK.1 hP (ci := ci) (q0 := q0) (vw_at ci hci) e2, fun U hU hW => ⟨rfl, entB C hR hS U hU hW⟩⟩ rfl (by simp; omega) hL.2.1.1 (stack_rcv hdr) (lv_room (Nat.le_trans (cat_sum (n := 4) (by simp; omega)) (Nat.le_refl 8))) hd ⟨by omega, by omega⟩
/-- a constructor's call -/
theorem s_callI {K : MKey} {d : Nat} {X : Option (Nat × (Nat → Int))} {P : Out → Mh → Prop} {pc : Nat} {q : Pd} {K' : MKey} {na idx : Nat} (hM : MkB K' na) (hh' : kH K' = []) (hr' : kR K' = none) (hnm : (kY K').name = "<init>") (hin : Cond.instanceMethod (kY K') ∈ UG) (hlk : Cond.methodLink (kY K).cls idx (kY K') ∈ UG)
    (hd : decode (kB K) pc = .ok (.invokespecial idx, 3)) (hq : Imp q (Ru K d X P (pc + 3))) : Imp (fun L S h c s => all1 (S.take (na + 1)) = true ∧ dr (match S.drop na with | .inr (.inl r) :: _ => r | _ => none) (fun _ => True) ∧ o_call d K' (na + 1) (fun _ _ _ _ _ _ => False) q L S h c s) (Ru K d X P pc) := by
  intro L S h c sl hh l p e R s m args below meth cd D A ad0 dm0 C ad cA H locs ls cells slots hR hS he hL hSk hc hs
  obtain ⟨cx, cb, cr, cml, cown, cts, clk, cnm, cet, cK, cst, cfr, clo, cce, csl, cA9, cXs⟩ := id C
  obtain ⟨ha1, ⟨a, hrc, -⟩, hna, hlen, hd1, hc2, hs2, hct⟩ := hh
  have hdr := drop_rcv hrc
  have hT : ∀ v ∈ (S.take (na + 1)).reverse, okv h v ∧ cat1 v := fun v hv => ⟨sok_take hSk v hv, all1_of ha1 v (List.mem_reverse.mp hv)⟩
  have hM9 := met_of (hct l D cA ad H.size cst hT) (fun E st t z => by obtain ⟨⟨_, _, _, z, _⟩, _⟩ := z; exact z)
  rw [take_succ_rev hdr] at hM9
  refine run_W hq (S' := S.drop (na + 1)) (Xh := fun _ _ _ _ _ _ => False) (K' := K') C hR hS he hL (sok_drop hSk) hc hs hc2 hs2 (fun _ _ _ _ _ _ _ _ z => z.elim) (va_to_vx ?_)
  have hB := hM.callB (R := R) (s := s) (args := args) hh' cts hlk hd1 cfr clo
  rw [hr'] at hB
  exact va_runI (b := ad a) (As := ((S.take na).reverse).map (tv ad)) ⟨cx, cb, cml, cown, cts⟩ hM9 ⟨hB, hnm, cts _ hin⟩ ⟨blind blindR, fun U hU hW => ⟨rfl, entB C hR hS U hU hW⟩⟩ rfl (by simp; omega) hL.2.1.1 (stack_rcv hdr) (lv_room (Nat.le_trans (cat_sum (n := 4) (by simp; omega)) (Nat.le_refl 8))) hd ⟨by omega, by omega⟩
theorem s_objinit {K : MKey} {d : Nat} {X : Option (Nat × (Nat → Int))} {P : Out → Mh → Prop} {pc : Nat} {q : Pd} {idx : Nat} (i1 i2 i3 : Nat) (w1 : lw_tbl[i1]? = some (.methodLink (kY K).cls idx Lib.objectInit)) (w2 : lw_tbl[i2]? = some (.instanceMethod Lib.objectInit)) (w3 : lw_tbl[i3]? = some (.code Lib.objectInit ⟨#[0xb1]⟩ 1 none))
    (hd : decode (kB K) pc = .ok (.invokespecial idx, 3)) (hq : Imp q (Ru K d X P (pc + 3))) : Imp (fun L S h c s => 1 ≤ d ∧ S.length ≤ 5 ∧ o_objinit q L S h c s) (Ru K d X P pc) := by
  intro L S h c sl hh l p e R s m args below meth cd D A ad0 dm0 C ad cA H locs ls cells slots hR hS he hL hSk hc hs
  obtain ⟨cx, cb, cr, cml, cown, cts, clk, cnm, cet, cK, cst, cfr, clo, cce, csl, cA9, cXs⟩ := id C
  obtain ⟨hdd, hlen, hh⟩ := hh
  unfold o_objinit at hh
  split at hh
  next r S' =>
    obtain ⟨a, rfl, hh⟩ := hh
    have hcs := cat_sum (S := S') (ad := ad) (n := 4) (by simp at hlen; omega)
    exact W.objInit cx cb cown (ugw cts i1 w1 rfl) (ugw cts i2 w2 rfl) (ugw cts i3 w3 rfl) rfl (hL.2.1.1.trans cml.symm) (rest := S'.map (tv ad)) rfl hd (by omega) (by show 2 * 0 + _ + 12 ≤ _; omega) (hq L S' h c sl hh l p e R s m args below meth cd D A ad0 dm0 C ad cA H locs ls cells slots hR hS he hL (sok_tl hSk) hc hs)
  next => exact hh.elim
theorem max_i {x y : Int} (hx : rng x) (hy : rng y) : (if Int32.ofInt x < Int32.ofInt y then Int32.ofInt y else Int32.ofInt x) = Int32.ofInt (max x y) := by
  simp only [i32_lt hx hy]
  split
  · rw [Int.max_eq_right (by omega)]
  · rw [Int.max_eq_left (by omega)]
theorem min_i {x y : Int} (hx : rng x) (hy : rng y) : (if Int32.ofInt y < Int32.ofInt x then Int32.ofInt y else Int32.ofInt x) = Int32.ofInt (min x y) := by
  simp only [i32_lt hy hx]
  split
  · rw [Int.min_eq_right (by omega)]
  · rw [Int.min_eq_left (by omega)]
theorem s_max {K : MKey} {d : Nat} {X : Option (Nat × (Nat → Int))} {P : Out → Mh → Prop} {pc : Nat} {q : Pd} {idx : Nat} (i1 i2 i3 i4 : Nat) (w1 : lw_tbl[i1]? = some (.methodLink (kY K).cls idx Lib.Math.max.name)) (w2 : lw_tbl[i2]? = some (.static Lib.Math.max.name)) (w3 : lw_tbl[i3]? = some (.initialized "java/lang/Math")) (w4 : lw_tbl[i4]? = some (.code Lib.Math.max.name Lib.Math.max.code 2 (some .int)))
    (hd : decode (kB K) pc = .ok (.invokestatic idx, 3)) (hq : Imp q (Ru K d X P (pc + 3))) : Imp (fun L S h c s => 2 ≤ d ∧ S.length ≤ 6 ∧ o_max q L S h c s) (Ru K d X P pc) := by
  intro L S h c sl hh l p e R s m args below meth cd D A ad0 dm0 C ad cA H locs ls cells slots hR hS he hL hSk hc hs
  obtain ⟨cx, cb, cr, cml, cown, cts, clk, cnm, cet, cK, cst, cfr, clo, cce, csl, cA9, cXs⟩ := id C
  obtain ⟨hdd, hlen, hh⟩ := hh
  unfold o_max at hh
  split at hh
  next y x S' =>
    have hy : rng y := sok_hd hSk
    have hx : rng x := sok_hd (sok_tl hSk)
    have hcs := cat_sum (S := S') (ad := ad) (n := 4) (by simp at hlen; omega)
    have hm : rng (max x y) := by rcases Int.le_total x y with z | z
                                  · rw [Int.max_eq_right z]; exact hy
                                  · rw [Int.max_eq_left z]; exact hx
    have K9 := hq L (pI (max x y) :: S') h c sl hh l p e R s m args below meth cd D A ad0 dm0 C ad cA H locs ls cells slots hR hS he hL (sok_cons hm (sok_tl (sok_tl hSk))) hc hs
    rw [List.map_cons, show tv ad (pI (max x y)) = .int (Int32.ofInt (max x y)) from rfl, ← max_i hx hy] at K9
    exact va_mmax cx cb (cml.trans hL.2.1.1.symm) cown (ugw cts i1 w1 rfl) (ugw cts i2 w2 rfl) (ugw cts i3 w3 rfl) (ugw cts i4 w4 rfl) (by omega) (by omega) (by omega) (by omega) hd K9
  next => exact hh.elim
theorem s_min {K : MKey} {d : Nat} {X : Option (Nat × (Nat → Int))} {P : Out → Mh → Prop} {pc : Nat} {q : Pd} {idx : Nat} (i1 i2 i3 i4 : Nat) (w1 : lw_tbl[i1]? = some (.methodLink (kY K).cls idx Lib.Math.min.name)) (w2 : lw_tbl[i2]? = some (.static Lib.Math.min.name)) (w3 : lw_tbl[i3]? = some (.initialized "java/lang/Math")) (w4 : lw_tbl[i4]? = some (.code Lib.Math.min.name Lib.Math.min.code 2 (some .int)))
    (hd : decode (kB K) pc = .ok (.invokestatic idx, 3)) (hq : Imp q (Ru K d X P (pc + 3))) : Imp (fun L S h c s => 2 ≤ d ∧ S.length ≤ 6 ∧ o_min q L S h c s) (Ru K d X P pc) := by
  intro L S h c sl hh l p e R s m args below meth cd D A ad0 dm0 C ad cA H locs ls cells slots hR hS he hL hSk hc hs
  obtain ⟨cx, cb, cr, cml, cown, cts, clk, cnm, cet, cK, cst, cfr, clo, cce, csl, cA9, cXs⟩ := id C
  obtain ⟨hdd, hlen, hh⟩ := hh
  unfold o_min at hh
  split at hh
  next y x S' =>
    have hy : rng y := sok_hd hSk
    have hx : rng x := sok_hd (sok_tl hSk)
    have hcs := cat_sum (S := S') (ad := ad) (n := 4) (by simp at hlen; omega)
    have hm : rng (min x y) := by rcases Int.le_total x y with z | z
                                  · rw [Int.min_eq_left z]; exact hx
                                  · rw [Int.min_eq_right z]; exact hy
    have K9 := hq L (pI (min x y) :: S') h c sl hh l p e R s m args below meth cd D A ad0 dm0 C ad cA H locs ls cells slots hR hS he hL (sok_cons hm (sok_tl (sok_tl hSk))) hc hs
    rw [List.map_cons, show tv ad (pI (min x y)) = .int (Int32.ofInt (min x y)) from rfl, ← min_i hx hy] at K9
    exact va_mmin cx cb (cml.trans hL.2.1.1.symm) cown (ugw cts i1 w1 rfl) (ugw cts i2 w2 rfl) (ugw cts i3 w3 rfl) (ugw cts i4 w4 rfl) (by omega) (by omega) (by omega) (by omega) hd K9
  next => exact hh.elim
theorem ref_eq {D : va_G} {cA : Nat → ClassId} {ad : Nat → Nat} {h : Mh} {H : Heap} {A : Nat → Prop} {U : State} (R : Rep D cA ad h H A U) {x y : Option Nat} (hx : okn h x) (hy : okn h y) : x.map ad = y.map ad ↔ x = y := by
  constructor
  · intro e
    cases x with
    | none => cases y with
      | none => rfl
      | some b => cases e
    | some a => cases y with
      | none => cases e
      | some b => rw [R.inj (hx a rfl) (hy b rfl) (Option.some.inj e)]
  · intro e; rw [e]
theorem s_acmpeq {K : MKey} {d : Nat} {X : Option (Nat × (Nat → Int))} {P : Out → Mh → Prop} {pc tgt : Nat} {off : Int} {t q : Pd} (hd : decode (kB K) pc = .ok (.if_acmp .eq off, 3)) (ht : (pc : Int) + off = (tgt : Int)) (ht2 : Imp t (Ru K d X P tgt)) (hq : Imp q (Ru K d X P (pc + 3))) : Imp (o_acmpeq t q) (Ru K d X P pc) := by
  intro L S h c sl hh l p e R s m args below meth cd D A ad0 dm0 C ad cA H locs ls cells slots hR hS he hL hSk hc hs
  unfold o_acmpeq at hh
  split at hh
  next y x S' =>
    obtain ⟨ox, oy, h1, h2⟩ := hh
    refine lv_acmp_eq (rx := x.map ad) (ry := y.map ad) (tgt := tgt) C.1 C.2.1 hd ht (fun z => ?_) (fun z => ?_)
    · exact ht2 L S' h c sl (h1 ((ref_eq hR ox oy).mp z)) l p e R s m args below meth cd D A ad0 dm0 C ad cA H locs ls cells slots hR hS he hL (sok_tl (sok_tl hSk)) hc hs
    · exact hq L S' h c sl (h2 (fun w => z ((ref_eq hR ox oy).mpr w))) l p e R s m args below meth cd D A ad0 dm0 C ad cA H locs ls cells slots hR hS he hL (sok_tl (sok_tl hSk)) hc hs
  next => exact hh.elim
theorem s_acmpne {K : MKey} {d : Nat} {X : Option (Nat × (Nat → Int))} {P : Out → Mh → Prop} {pc tgt : Nat} {off : Int} {t q : Pd} (hd : decode (kB K) pc = .ok (.if_acmp .ne off, 3)) (ht : (pc : Int) + off = (tgt : Int)) (ht2 : Imp t (Ru K d X P tgt)) (hq : Imp q (Ru K d X P (pc + 3))) : Imp (o_acmpne t q) (Ru K d X P pc) := by
  intro L S h c sl hh l p e R s m args below meth cd D A ad0 dm0 C ad cA H locs ls cells slots hR hS he hL hSk hc hs
  unfold o_acmpne at hh
  split at hh
  next y x S' =>
    obtain ⟨ox, oy, h1, h2⟩ := hh
    refine lv_acmp_ne (rx := x.map ad) (ry := y.map ad) (tgt := tgt) C.1 C.2.1 hd ht (fun z => ?_) (fun z => ?_)
    · exact ht2 L S' h c sl (h1 (fun w => z ((ref_eq hR ox oy).mpr w))) l p e R s m args below meth cd D A ad0 dm0 C ad cA H locs ls cells slots hR hS he hL (sok_tl (sok_tl hSk)) hc hs
    · exact hq L S' h c sl (h2 ((ref_eq hR ox oy).mp z)) l p e R s m args below meth cd D A ad0 dm0 C ad cA H locs ls cells slots hR hS he hL (sok_tl (sok_tl hSk)) hc hs
  next => exact hh.elim
