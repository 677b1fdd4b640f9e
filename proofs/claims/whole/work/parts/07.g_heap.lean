-- fields
def FOk (own : String) (idx ci k : Nat) : Prop := ci < 12 ∧ k < nF ci ∧ Cond.fieldLink own idx (tX ci k).1 (tX ci k).2.1 (tX ci k).2.2.1 ∈ UG
theorem FOk.mk {own : String} {idx ci k : Nat} (i : Nat) (h : decide (ci < 12 ∧ k < nF ci) = true) (h2 : lw_tbl[i]? = some (Cond.fieldLink own idx (tX ci k).1 (tX ci k).2.1 (tX ci k).2.2.1)) : FOk own idx ci k :=
  ⟨(of_decide_eq_true h).1, (of_decide_eq_true h).2, ug_of i h2 rfl⟩
theorem s_getI {K : MKey} {d : Nat} {X : Option (Nat × (Nat → Int))} {P : Out → Mh → Prop} {pc : Nat} {q : Pd} {idx ci k : Nat} (hF : FOk (kY K).cls idx ci k) (hf : ftR ci k = false) (hd : decode (kB K) pc = .ok (.getfield idx, 3)) (hq : Imp q (Ru K d X P (pc + 3))) : Imp (o_getI ci k q) (Ru K d X P pc) := by
  intro L S h c sl hh l p e R s m args below meth cd D A ad0 dm0 C ad cA H locs ls cells slots hR hS he hL hSk hc hs
  obtain ⟨cx, cb, cr, cml, cown, cts, clk, cnm, cet, cK, cst, cfr, clo, cce, csl, cA9, cXs⟩ := id C
  unfold o_getI at hh
  split at hh
  next r S' =>
    obtain ⟨a, rfl, hk, hh⟩ := hh
    obtain ⟨hci, hkN, hlink⟩ := hF
    obtain ⟨dom, q0, h1, h2, hP, hD, e1, e2⟩ := hR.mem (n := a) (by omega)
    rw [cel_obj hk hci] at e2
    exact va_get (D := D) (ci := ci) (v := .int (Int32.ofInt (Mi h a k))) (C := rX ci) (T := tX ci) (N := nF ci) cx cb cts (uw_all ci hci) cown cK.1 hP q0 e2 (vw_at ci hci) k hkN (cts _ hlink) (fun _ h9 => h9) (by rw [fvl_at hkN, fvl_i hf]) hd
      (hq L (pI (Mi h a k) :: S') h c sl hh l p e R s m args below meth cd D A ad0 dm0 C ad cA H locs ls cells slots hR hS he hL (sok_cons (hR.2.2.1 a k) (sok_tl hSk)) hc hs)
  next => exact hh.elim
theorem s_getR {K : MKey} {d : Nat} {X : Option (Nat × (Nat → Int))} {P : Out → Mh → Prop} {pc : Nat} {q : Pd} {idx ci k : Nat} (hF : FOk (kY K).cls idx ci k) (hf : ftR ci k = true) (hd : decode (kB K) pc = .ok (.getfield idx, 3)) (hq : Imp q (Ru K d X P (pc + 3))) : Imp (o_getR ci k q) (Ru K d X P pc) := by
  intro L S h c sl hh l p e R s m args below meth cd D A ad0 dm0 C ad cA H locs ls cells slots hR hS he hL hSk hc hs
  obtain ⟨cx, cb, cr, cml, cown, cts, clk, cnm, cet, cK, cst, cfr, clo, cce, csl, cA9, cXs⟩ := id C
  unfold o_getR at hh
  split at hh
  next r S' =>
    obtain ⟨a, rfl, hk, hh⟩ := hh
    obtain ⟨hci, hkN, hlink⟩ := hF
    obtain ⟨dom, q0, h1, h2, hP, hD, e1, e2⟩ := hR.mem (n := a) (by omega)
    rw [cel_obj hk hci] at e2
    exact va_get (D := D) (ci := ci) (v := va_rf ((Mr h a k).map ad)) (C := rX ci) (T := tX ci) (N := nF ci) cx cb cts (uw_all ci hci) cown cK.1 hP q0 e2 (vw_at ci hci) k hkN (cts _ hlink) (fun _ h9 => h9) (by rw [fvl_at hkN, fvl_r hf]) hd
      (hq L (pR (Mr h a k) :: S') h c sl hh l p e R s m args below meth cd D A ad0 dm0 C ad cA H locs ls cells slots hR hS he hL (sok_cons (fun n en => Or.inr (hR.2.2.2.2.2.1 a k n en)) (sok_tl hSk)) hc hs)
  next => exact hh.elim
theorem nar_b {v : Int} (h : v = 0 ∨ v = 1) : narrow .boolean (.int (Int32.ofInt v)) = .int (Int32.ofInt v) ∧ fits .boolean (.int (Int32.ofInt v)) = true := by
  rcases h with rfl | rfl <;> exact ⟨by decide, by decide⟩
theorem vpn_b {v : Int} (h : v = 0 ∨ v = 1) : vp_nar .boolean (Int32.ofInt v) = Int32.ofInt v := by
  rcases h with rfl | rfl <;> decide
/-- an int is put: the common part -/
theorem put_core {K : MKey} {d : Nat} {X : Option (Nat × (Nat → Int))} {P : Out → Mh → Prop} {pc : Nat} {q : Pd} {idx ci k : Nat} (hF : FOk (kY K).cls idx ci k) (hf : ftR ci k = false) (hfin : (tX ci k).2.2.2 = false ∨ ((tX ci k).2.2.2 = true ∧ (kY K).name = "<init>" ∧ (tX ci k).1 = (kY K).cls)) (hd : decode (kB K) pc = .ok (.putfield idx, 3)) (hq : Imp q (Ru K d X P (pc + 3)))
    {L : Lcs} {S' : List MV} {h : Mh} {c sl a : Nat} {v : Int} (hk : Kd h a = ci + 1) (hz : ftZ ci k = true → v = 0 ∨ v = 1) (hh : q L S' (setI h a k v) c sl) : Ru K d X P pc L (pI v :: pR (some a) :: S') h c sl := by
  intro l p e R s m args below meth cd D A ad0 dm0 C ad cA H locs ls cells slots hR hS he hL hSk hc hs
  obtain ⟨cx, cb, cr, cml, cown, cts, clk, cnm, cet, cK, cst, cfr, clo, cce, csl, cA9, cXs⟩ := id C
  obtain ⟨hci, hkN, hlink⟩ := hF
  obtain ⟨dom, q0, h1, h2, hP, hD, e1, e2⟩ := hR.mem (n := a) (by omega)
  rw [cel_obj hk hci] at e2
  have hn9 : narrow (tyX ci k) (.int (Int32.ofInt v)) = .int (Int32.ofInt v) ∧ fits (tyX ci k) (.int (Int32.ofInt v)) = true := by
    rcases ty_kind ci hci k hkN with ⟨q1, -⟩ | ⟨-, ⟨q1, q2⟩ | ⟨q1, q2⟩⟩
    · rw [hf] at q1; cases q1
    · rw [q2]; exact nar_b (hz q1)
    · rw [q2]; exact ⟨rfl, rfl⟩
  have K9 : ∀ (H1 : Heap) (locs1 : List Loc), va_P D vwCl ((wsO cA ad h dom).set q0 (ad a, .inr (ci, ((List.range (nF ci)).map (fvl ad h ci a)).set k (.int (Int32.ofInt v))))) H1 → va_D A ((wsO cA ad h dom).set q0 (ad a, .inr (ci, ((List.range (nF ci)).map (fvl ad h ci a)).set k (.int (Int32.ofInt v))))) → va_S A s.heap H1 locs1 →
      W p l e R s m args below meth cd H1 locs1 cells slots (vx_MQ below (Qn D P ad0 dm0 A) (Xn D P ad0 dm0 A) args s (kC K) (kS K) A) (F0 m (pc + 3) ls (S'.map (tv ad))) := by
    intro H1 locs1 hP1 hD1 hS1
    have e9 : cel cA ad (setI h a k v) a = .inr (ci, ((List.range (nF ci)).map (fvl ad h ci a)).set k (.int (Int32.ofInt v))) := by
      rw [cel_obj (h := setI h a k v) hk hci, fvls_setI hf]
    refine hq L S' (setI h a k v) c sl hh l p e R s m args below meth cd D A ad0 dm0 C ad cA H1 locs1 ls cells slots (hR.upd h1 h2 e1 rfl rfl (fun m hm => cel_setI_ne hm) (rng_setI hR.2.2.1 (sok_hd hSk)) hR.2.2.2.2.2.1 (by rw [e9]; exact hP1) (by rw [e9]; exact hD1)) hS1 he ?_ (sok_tl (sok_tl hSk)) hc hs
    exact hL
  rcases hfin with hfin | ⟨hf1, hf2, hf3⟩
  · exact va_put (D := D) (ci := ci) (v := .int (Int32.ofInt v)) (C := rX ci) (T := tX ci) (N := nF ci) cx cb cts (uw_all ci hci) (tyX ci) (ty_all ci hci) (nm_all ci hci) cown cK.1 hP hD hS q0 e2 (vw_at ci hci) k hkN (cts _ hlink) (fun _ h9 => h9) hfin (ty_all ci hci k hkN) hn9.1 hn9.2 (by simpa using hkN) hd K9
  · exact va_putF (D := D) (ci := ci) (v := .int (Int32.ofInt v)) (C := rX ci) (T := tX ci) (N := nF ci) cx cb cts (uw_all ci hci) (tyX ci) (ty_all ci hci) (nm_all ci hci) cown cK.1 hP hD hS q0 e2 (vw_at ci hci) k hkN (cts _ hlink) (fun _ h9 => h9) hf1 (cnm.trans hf2) hf3 (ty_all ci hci k hkN) hn9.1 hn9.2 (by simpa using hkN) hd K9
theorem s_putI {K : MKey} {d : Nat} {X : Option (Nat × (Nat → Int))} {P : Out → Mh → Prop} {pc : Nat} {q : Pd} {idx ci k : Nat} (hF : FOk (kY K).cls idx ci k) (hf : ftR ci k = false) (hz : ftZ ci k = false) (hfin : (tX ci k).2.2.2 = false ∨ ((tX ci k).2.2.2 = true ∧ (kY K).name = "<init>" ∧ (tX ci k).1 = (kY K).cls)) (hd : decode (kB K) pc = .ok (.putfield idx, 3)) (hq : Imp q (Ru K d X P (pc + 3))) : Imp (o_putI ci k q) (Ru K d X P pc) := by
  intro L S h c sl hh
  unfold o_putI at hh
  split at hh
  next v r S' =>
    obtain ⟨a, rfl, hk, hh⟩ := hh
    exact put_core hF hf hfin hd hq hk (fun q9 => by rw [hz] at q9; cases q9) hh
  next => exact hh.elim
theorem s_putZ {K : MKey} {d : Nat} {X : Option (Nat × (Nat → Int))} {P : Out → Mh → Prop} {pc : Nat} {q : Pd} {idx ci k : Nat} (hF : FOk (kY K).cls idx ci k) (hf : ftR ci k = false) (hfin : (tX ci k).2.2.2 = false ∨ ((tX ci k).2.2.2 = true ∧ (kY K).name = "<init>" ∧ (tX ci k).1 = (kY K).cls)) (hd : decode (kB K) pc = .ok (.putfield idx, 3)) (hq : Imp q (Ru K d X P (pc + 3))) : Imp (o_putZ ci k q) (Ru K d X P pc) := by
  intro L S h c sl hh
  unfold o_putZ at hh
  split at hh
  next v r S' =>
    obtain ⟨a, rfl, hk, h01, hh⟩ := hh
    exact put_core hF hf hfin hd hq hk (fun _ => h01) hh
  next => exact hh.elim
theorem s_putR {K : MKey} {d : Nat} {X : Option (Nat × (Nat → Int))} {P : Out → Mh → Prop} {pc : Nat} {q : Pd} {idx ci k : Nat} (hF : FOk (kY K).cls idx ci k) (hf : ftR ci k = true) (hfin : (tX ci k).2.2.2 = false ∨ ((tX ci k).2.2.2 = true ∧ (kY K).name = "<init>" ∧ (tX ci k).1 = (kY K).cls)) (hd : decode (kB K) pc = .ok (.putfield idx, 3)) (hq : Imp q (Ru K d X P (pc + 3))) : Imp (o_putR ci k q) (Ru K d X P pc) := by
  intro L S h c sl hh l p e R s m args below meth cd D A ad0 dm0 C ad cA H locs ls cells slots hR hS he hL hSk hc hs
  obtain ⟨cx, cb, cr, cml, cown, cts, clk, cnm, cet, cK, cst, cfr, clo, cce, csl, cA9, cXs⟩ := id C
  unfold o_putR at hh
  split at hh
  next v r S' =>
    obtain ⟨a, rfl, hk, hv0, hh⟩ := hh
    obtain ⟨hci, hkN, hlink⟩ := hF
    obtain ⟨dom, q0, h1, h2, hP, hD, e1, e2⟩ := hR.mem (n := a) (by omega)
    rw [cel_obj hk hci] at e2
    have hn9 : narrow (tyX ci k) (va_rf (v.map ad)) = va_rf (v.map ad) ∧ fits (tyX ci k) (va_rf (v.map ad)) = true := by
      rcases ty_kind ci hci k hkN with ⟨-, ⟨C9, q2⟩ | ⟨t9, q2⟩⟩ | ⟨q1, -⟩
      · rw [q2]; cases v <;> exact ⟨rfl, rfl⟩
      · rw [q2]; cases v <;> exact ⟨rfl, rfl⟩
      · rw [hf] at q1; cases q1
    have K9 : ∀ (H1 : Heap) (locs1 : List Loc), va_P D vwCl ((wsO cA ad h dom).set q0 (ad a, .inr (ci, ((List.range (nF ci)).map (fvl ad h ci a)).set k (va_rf (v.map ad))))) H1 → va_D A ((wsO cA ad h dom).set q0 (ad a, .inr (ci, ((List.range (nF ci)).map (fvl ad h ci a)).set k (va_rf (v.map ad))))) → va_S A s.heap H1 locs1 →
        W p l e R s m args below meth cd H1 locs1 cells slots (vx_MQ below (Qn D P ad0 dm0 A) (Xn D P ad0 dm0 A) args s (kC K) (kS K) A) (F0 m (pc + 3) ls (S'.map (tv ad))) := by
      intro H1 locs1 hP1 hD1 hS1
      have e9 : cel cA ad (setR h a k v) a = .inr (ci, ((List.range (nF ci)).map (fvl ad h ci a)).set k (va_rf (v.map ad))) := by
        rw [cel_obj (h := setR h a k v) hk hci, fvls_setR hf]
      refine hq L S' (setR h a k v) c sl hh l p e R s m args below meth cd D A ad0 dm0 C ad cA H1 locs1 ls cells slots (hR.upd h1 h2 e1 rfl rfl (fun m hm => cel_setR_ne hm) hR.2.2.1 ?_ (by rw [e9]; exact hP1) (by rw [e9]; exact hD1)) hS1 he hL (sok_tl (sok_tl hSk)) hc hs
      intro n k9 n' hn'
      rw [Mr_setR] at hn'
      split at hn'
      · exact hv0 n' hn'
      · exact hR.2.2.2.2.2.1 n k9 n' hn'
    rcases hfin with hfin | ⟨hf1, hf2, hf3⟩
    · exact va_put (D := D) (ci := ci) (v := va_rf (v.map ad)) (C := rX ci) (T := tX ci) (N := nF ci) cx cb cts (uw_all ci hci) (tyX ci) (ty_all ci hci) (nm_all ci hci) cown cK.1 hP hD hS q0 e2 (vw_at ci hci) k hkN (cts _ hlink) (fun _ h9 => h9) hfin (ty_all ci hci k hkN) hn9.1 hn9.2 (by simpa using hkN) hd K9
    · exact va_putF (D := D) (ci := ci) (v := va_rf (v.map ad)) (C := rX ci) (T := tX ci) (N := nF ci) cx cb cts (uw_all ci hci) (tyX ci) (ty_all ci hci) (nm_all ci hci) cown cK.1 hP hD hS q0 e2 (vw_at ci hci) k hkN (cts _ hlink) (fun _ h9 => h9) hf1 (cnm.trans hf2) hf3 (ty_all ci hci k hkN) hn9.1 hn9.2 (by simpa using hkN) hd K9
  next => exact hh.elim
-- arrays
theorem ix_back {i : Int} (h0 : 0 ≤ i) (h1 : i < 2147483648) : (((Int32.ofInt i).toNatClampNeg : Nat) : Int) = i := by rw [i32_cl h0 h1]; omega
theorem s_iald {K : MKey} {d : Nat} {X : Option (Nat × (Nat → Int))} {P : Out → Mh → Prop} {pc : Nat} {q : Pd} (hd : decode (kB K) pc = .ok (.iaload, 1)) (hq : Imp q (Ru K d X P (pc + 1))) : Imp (o_iald q) (Ru K d X P pc) := by
  intro L S h c sl hh l p e R s m args below meth cd D A ad0 dm0 C ad cA H locs ls cells slots hR hS he hL hSk hc hs
  obtain ⟨cx, cb, cr, cml, cown, cts, clk, cnm, cet, cK, cst, cfr, clo, cce, csl, cA9, cXs⟩ := id C
  unfold o_iald at hh
  split at hh
  next i r S' =>
    obtain ⟨a, rfl, hk, i0, i1, hh⟩ := hh
    obtain ⟨dom, q0, h1, h2, hP, hD, e1, e2⟩ := hR.mem (n := a) (by omega)
    rw [cel_arr (by omega), ael_i (by omega)] at e2
    have hl := hR.2.2.2.1 a
    have K9 := hq L (pI (Mi h a i) :: S') h c sl hh l p e R s m args below meth cd D A ad0 dm0 C ad cA H locs ls cells slots hR hS he hL (sok_cons (hR.2.2.1 a i) (sok_tl (sok_tl hSk))) hc hs
    have hT := hR.arr (n := a) (by omega) cK.1
    rw [hk] at hT
    exact va_iald cx cb hT hP q0 0 e2 rfl (i32_in i0 i1 hl.2) hd (by rw [ix_back i0 (by omega)]; exact K9)
  next => exact hh.elim
theorem s_bald {K : MKey} {d : Nat} {X : Option (Nat × (Nat → Int))} {P : Out → Mh → Prop} {pc : Nat} {q : Pd} (hd : decode (kB K) pc = .ok (.baload, 1)) (hq : Imp q (Ru K d X P (pc + 1))) : Imp (o_bald q) (Ru K d X P pc) := by
  intro L S h c sl hh l p e R s m args below meth cd D A ad0 dm0 C ad cA H locs ls cells slots hR hS he hL hSk hc hs
  obtain ⟨cx, cb, cr, cml, cown, cts, clk, cnm, cet, cK, cst, cfr, clo, cce, csl, cA9, cXs⟩ := id C
  unfold o_bald at hh
  split at hh
  next i r S' =>
    obtain ⟨a, rfl, hk, i0, i1, hh⟩ := hh
    obtain ⟨dom, q0, h1, h2, hP, hD, e1, e2⟩ := hR.mem (n := a) (by omega)
    rw [cel_arr (by omega), ael_i (by omega)] at e2
    have hl := hR.2.2.2.1 a
    have K9 := hq L (pI (Mi h a i) :: S') h c sl hh l p e R s m args below meth cd D A ad0 dm0 C ad cA H locs ls cells slots hR hS he hL (sok_cons (hR.2.2.1 a i) (sok_tl (sok_tl hSk))) hc hs
    have hT := hR.arr (n := a) (by omega) cK.1
    rw [hk] at hT
    exact va_zald cx cb hT hP q0 0 e2 rfl (i32_in i0 i1 hl.2) hd (by rw [ix_back i0 (by omega)]; exact K9)
  next => exact hh.elim
theorem s_lald {K : MKey} {d : Nat} {X : Option (Nat × (Nat → Int))} {P : Out → Mh → Prop} {pc : Nat} {q : Pd} (hd : decode (kB K) pc = .ok (.laload, 1)) (hq : Imp q (Ru K d X P (pc + 1))) : Imp (o_lald q) (Ru K d X P pc) := by
  intro L S h c sl hh l p e R s m args below meth cd D A ad0 dm0 C ad cA H locs ls cells slots hR hS he hL hSk hc hs
  obtain ⟨cx, cb, cr, cml, cown, cts, clk, cnm, cet, cK, cst, cfr, clo, cce, csl, cA9, cXs⟩ := id C
  unfold o_lald at hh
  split at hh
  next i r S' =>
    obtain ⟨a, rfl, hk, i0, i1, hh⟩ := hh
    obtain ⟨dom, q0, h1, h2, hP, hD, e1, e2⟩ := hR.mem (n := a) (by omega)
    rw [cel_arr (by omega), ael_l (by omega)] at e2
    have hl := hR.2.2.2.1 a
    have K9 := hq L (pL (Mi h a i) :: S') h c sl hh l p e R s m args below meth cd D A ad0 dm0 C ad cA H locs ls cells slots hR hS he hL (sok_cons (v := pL (Mi h a i)) (hR.2.2.1 a i) (sok_tl (sok_tl hSk))) hc hs
    have hT := hR.arr (n := a) (by omega) cK.1
    rw [hk] at hT
    exact va_lald cx cb hT hP q0 0 e2 rfl (i32_in i0 i1 hl.2) hd (by rw [ix_back i0 (by omega)]; exact K9)
  next => exact hh.elim
theorem aty_ref {k : Nat} (h : 23 < k) : (aty k).isReference = true := by
  unfold aty
  split <;> first | omega | rfl
theorem aty_obj {ci : Nat} : aty (30 + ci) = .object (rX ci) := by
  unfold aty
  split
  · omega
  · omega
  · omega
  · omega
  · rw [show 30 + ci - 30 = ci by omega]
theorem s_aald {K : MKey} {d : Nat} {X : Option (Nat × (Nat → Int))} {P : Out → Mh → Prop} {pc : Nat} {q : Pd} (hd : decode (kB K) pc = .ok (.aaload, 1)) (hq : Imp q (Ru K d X P (pc + 1))) : Imp (o_aald q) (Ru K d X P pc) := by
  intro L S h c sl hh l p e R s m args below meth cd D A ad0 dm0 C ad cA H locs ls cells slots hR hS he hL hSk hc hs
  obtain ⟨cx, cb, cr, cml, cown, cts, clk, cnm, cet, cK, cst, cfr, clo, cce, csl, cA9, cXs⟩ := id C
  unfold o_aald at hh
  split at hh
  next i r S' =>
    obtain ⟨a, rfl, hk, i0, i1, hh⟩ := hh
    obtain ⟨dom, q0, h1, h2, hP, hD, e1, e2⟩ := hR.mem (n := a) (by omega)
    rw [cel_arr (by omega), ael_r (by omega)] at e2
    have hl := hR.2.2.2.1 a
    have K9 := hq L (pR (Mr h a i) :: S') h c sl hh l p e R s m args below meth cd D A ad0 dm0 C ad cA H locs ls cells slots hR hS he hL (sok_cons (fun n en => Or.inr (hR.2.2.2.2.2.1 a i n en)) (sok_tl (sok_tl hSk))) hc hs
    have hcell := hP q0 _ e2
    have hin := i32_in i0 i1 hl.2
    have hsz : (arrV (cA a) (Ln h a).toNat (fun j : Nat => va_rf ((Mr h a (j : Int)).map ad))).slots.size = (Ln h a).toNat := by simp [arrV]
    refine W.aald (v := va_rf ((Mr h a i).map ad)) cx cb (cell := arrV (cA a) (Ln h a).toNat (fun j : Nat => va_rf ((Mr h a (j : Int)).map ad))) hcell ((hR.2.1 a (by omega)).1 _ _) (aty_ref hk) (by intro z; cases z) (by rw [hsz]; exact hin) ?_ rfl rfl hd K9
    have hlt : (Int32.ofInt i).toNatClampNeg < (Ln h a).toNat := by rw [i32_cl i0 (by omega)]; omega
    have := ix_back i0 (i := i) (by omega)
    simp only [arrV]
    rw [Array.getElem?_eq_getElem (by simpa using hlt)]
    simp [this]
  next => exact hh.elim
theorem s_alen {K : MKey} {d : Nat} {X : Option (Nat × (Nat → Int))} {P : Out → Mh → Prop} {pc : Nat} {q : Pd} (hd : decode (kB K) pc = .ok (.arraylength, 1)) (hq : Imp q (Ru K d X P (pc + 1))) : Imp (o_alen q) (Ru K d X P pc) := by
  intro L S h c sl hh l p e R s m args below meth cd D A ad0 dm0 C ad cA H locs ls cells slots hR hS he hL hSk hc hs
  obtain ⟨cx, cb, cr, cml, cown, cts, clk, cnm, cet, cK, cst, cfr, clo, cce, csl, cA9, cXs⟩ := id C
  unfold o_alen at hh
  split at hh
  next r S' =>
    obtain ⟨a, rfl, hk, hh⟩ := hh
    obtain ⟨dom, q0, h1, h2, hP, hD, e1, e2⟩ := hR.mem (n := a) (by omega)
    rw [cel_arr (by omega)] at e2
    have hl := hR.2.2.2.1 a
    have K9 := hq L (pI (Ln h a) :: S') h c sl hh l p e R s m args below meth cd D A ad0 dm0 C ad cA H locs ls cells slots hR hS he hL (sok_cons (v := pI (Ln h a)) ⟨by omega, by omega⟩ (sok_tl hSk)) hc hs
    have e9 : Int32.ofNat (ael ad h a).1 = Int32.ofInt (Ln h a) := by
      show Int32.ofNat (Ln h a).toNat = _
      rw [← Int32.ofInt_eq_ofNat]
      congr 1; omega
    exact va_alen cx cb (hR.arr (n := a) (by omega) cK.1) hP q0 0 e2 rfl e9 hd K9
  next => exact hh.elim
/-- an array is written: the common part -/
theorem arr_put {D : va_G} {cA : Nat → ClassId} {ad : Nat → Nat} {h : Mh} {H H1 : Heap} {A : Nat → Prop} {U : State} {a q0 : Nat} {i v : Int} {dom : List Nat} (hR : Rep D cA ad h H A U) (hk : Kd h a = 21 ∨ Kd h a = 22) (i0 : 0 ≤ i) (i1 : i < Ln h a) (hv : rng v) (h1 : dom.Nodup) (h2 : ∀ n, n ∈ dom ↔ Kd h n ≠ 0) (e1 : dom[q0]? = some a)
    (hP1 : va_P D vwCl ((wsO cA ad h dom).set q0 (ad a, .inl (cA a, (Ln h a).toNat, .inl (upd (fun j => Int32.ofInt (Mi h a (j : Int))) (Int32.ofInt i).toNatClampNeg (Int32.ofInt v))))) H1) (hD1 : va_D A ((wsO cA ad h dom).set q0 (ad a, .inl (cA a, (Ln h a).toNat, .inl (upd (fun j => Int32.ofInt (Mi h a (j : Int))) (Int32.ofInt i).toNatClampNeg (Int32.ofInt v)))))) :
    Rep D cA ad (setI h a i v) H1 A U := by
  have hl := hR.2.2.2.1 a
  have e9 : cel cA ad (setI h a i v) a = .inl (cA a, (Ln h a).toNat, .inl (upd (fun j => Int32.ofInt (Mi h a (j : Int))) (Int32.ofInt i).toNatClampNeg (Int32.ofInt v))) := by
    rw [cel_arr (h := setI h a i v) (by rw [Kd_setI]; omega), ael_i (h := setI h a i v) (by rw [Kd_setI]; omega), Ln_setI]
    congr 4
    funext j
    unfold upd
    rw [Mi_setI, i32_cl i0 (by omega)]
    by_cases e : j = i.toNat
    · rw [if_pos e, if_pos ⟨rfl, by omega⟩]
    · rw [if_neg e, if_neg (fun q => e (by omega))]
  exact hR.upd h1 h2 e1 rfl rfl (fun m hm => cel_setI_ne hm) (rng_setI hR.2.2.1 hv) hR.2.2.2.2.2.1 (by rw [e9]; exact hP1) (by rw [e9]; exact hD1)
theorem s_iast {K : MKey} {d : Nat} {X : Option (Nat × (Nat → Int))} {P : Out → Mh → Prop} {pc : Nat} {q : Pd} (hd : decode (kB K) pc = .ok (.iastore, 1)) (hq : Imp q (Ru K d X P (pc + 1))) : Imp (o_iast q) (Ru K d X P pc) := by
  intro L S h c sl hh l p e R s m args below meth cd D A ad0 dm0 C ad cA H locs ls cells slots hR hS he hL hSk hc hs
  obtain ⟨cx, cb, cr, cml, cown, cts, clk, cnm, cet, cK, cst, cfr, clo, cce, csl, cA9, cXs⟩ := id C
  unfold o_iast at hh
  split at hh
  next v i r S' =>
    obtain ⟨a, rfl, hk, i0, i1, hh⟩ := hh
    obtain ⟨dom, q0, h1, h2, hP, hD, e1, e2⟩ := hR.mem (n := a) (by omega)
    rw [cel_arr (by omega), ael_i (by omega)] at e2
    have hl := hR.2.2.2.1 a
    have hT := hR.arr (n := a) (by omega) cK.1
    rw [hk] at hT
    exact va_iast cx cb hT hP hD hS q0 0 e2 rfl (i32_in i0 i1 hl.2) hd (fun H1 locs1 hP1 hD1 hS1 => hq L S' (setI h a i v) c sl hh l p e R s m args below meth cd D A ad0 dm0 C ad cA H1 locs1 ls cells slots (arr_put hR (Or.inl hk) i0 i1 (sok_hd hSk) h1 h2 e1 hP1 hD1) hS1 he hL (sok_tl (sok_tl (sok_tl hSk))) hc hs)
  next => exact hh.elim
theorem s_bast {K : MKey} {d : Nat} {X : Option (Nat × (Nat → Int))} {P : Out → Mh → Prop} {pc : Nat} {q : Pd} (hd : decode (kB K) pc = .ok (.bastore, 1)) (hq : Imp q (Ru K d X P (pc + 1))) : Imp (o_bast q) (Ru K d X P pc) := by
  intro L S h c sl hh l p e R s m args below meth cd D A ad0 dm0 C ad cA H locs ls cells slots hR hS he hL hSk hc hs
  obtain ⟨cx, cb, cr, cml, cown, cts, clk, cnm, cet, cK, cst, cfr, clo, cce, csl, cA9, cXs⟩ := id C
  unfold o_bast at hh
  split at hh
  next v i r S' =>
    obtain ⟨a, rfl, hk, i0, i1, h01, hh⟩ := hh
    obtain ⟨dom, q0, h1, h2, hP, hD, e1, e2⟩ := hR.mem (n := a) (by omega)
    rw [cel_arr (by omega), ael_i (by omega)] at e2
    have hl := hR.2.2.2.1 a
    have hT := hR.arr (n := a) (by omega) cK.1
    rw [hk] at hT
    exact va_zast cx cb hT hP hD hS q0 0 e2 rfl (i32_in i0 i1 hl.2) hd (fun H1 locs1 hP1 hD1 hS1 => hq L S' (setI h a i v) c sl hh l p e R s m args below meth cd D A ad0 dm0 C ad cA H1 locs1 ls cells slots (arr_put hR (Or.inr hk) i0 i1 (sok_hd hSk) h1 h2 e1 (by rw [vpn_b h01] at hP1; exact hP1) (by rw [vpn_b h01] at hD1; exact hD1)) hS1 he hL (sok_tl (sok_tl (sok_tl hSk))) hc hs)
  next => exact hh.elim
theorem s_last {K : MKey} {d : Nat} {X : Option (Nat × (Nat → Int))} {P : Out → Mh → Prop} {pc : Nat} {q : Pd} (hd : decode (kB K) pc = .ok (.lastore, 1)) (hq : Imp q (Ru K d X P (pc + 1))) : Imp (o_last q) (Ru K d X P pc) := by
  intro L S h c sl hh l p e R s m args below meth cd D A ad0 dm0 C ad cA H locs ls cells slots hR hS he hL hSk hc hs
  obtain ⟨cx, cb, cr, cml, cown, cts, clk, cnm, cet, cK, cst, cfr, clo, cce, csl, cA9, cXs⟩ := id C
  unfold o_last at hh
  split at hh
  next v i r S' =>
    obtain ⟨a, rfl, hk, i0, i1, hh⟩ := hh
    obtain ⟨dom, q0, h1, h2, hP, hD, e1, e2⟩ := hR.mem (n := a) (by omega)
    rw [cel_arr (by omega), ael_l (by omega)] at e2
    have hl := hR.2.2.2.1 a
    have hT := hR.arr (n := a) (by omega) cK.1
    rw [hk] at hT
    refine va_last cx cb hT hP hD hS q0 0 e2 rfl (i32_in i0 i1 hl.2) hd (fun H1 locs1 hP1 hD1 hS1 => ?_)
    have e9 : cel cA ad (setI h a i v) a = .inl (cA a, (Ln h a).toNat, .inr (.inl (vp_updL (fun j => Int64.ofInt (Mi h a (j : Int))) (Int32.ofInt i).toNatClampNeg (Int64.ofInt v)))) := by
      rw [cel_arr (h := setI h a i v) (by rw [Kd_setI]; omega), ael_l (h := setI h a i v) (by rw [Kd_setI]; omega), Ln_setI]
      congr 5
      funext j
      unfold vp_updL
      rw [Mi_setI, i32_cl i0 (by omega)]
      by_cases e : j = i.toNat
      · rw [if_pos e, if_pos ⟨rfl, by omega⟩]
      · rw [if_neg e, if_neg (fun q => e (by omega))]
    exact hq L S' (setI h a i v) c sl hh l p e R s m args below meth cd D A ad0 dm0 C ad cA H1 locs1 ls cells slots (hR.upd h1 h2 e1 rfl rfl (fun m hm => cel_setI_ne hm) (rng_setI hR.2.2.1 (show rng v from sok_hd hSk)) hR.2.2.2.2.2.1 (by rw [e9]; exact hP1) (by rw [e9]; exact hD1)) hS1 he hL (sok_tl (sok_tl (sok_tl hSk))) hc hs
  next => exact hh.elim
theorem s_aast {K : MKey} {d : Nat} {X : Option (Nat × (Nat → Int))} {P : Out → Mh → Prop} {pc : Nat} {q : Pd} {ci : Nat} (hci : decide (ci < 12) = true) (hd : decode (kB K) pc = .ok (.aastore, 1)) (hq : Imp q (Ru K d X P (pc + 1))) : Imp (o_aast ci q) (Ru K d X P pc) := by
  intro L S h c sl hh l p e R s m args below meth cd D A ad0 dm0 C ad cA H locs ls cells slots hR hS he hL hSk hc hs
  obtain ⟨cx, cb, cr, cml, cown, cts, clk, cnm, cet, cK, cst, cfr, clo, cce, csl, cA9, cXs⟩ := id C
  have hci := of_decide_eq_true hci
  unfold o_aast at hh
  split at hh
  next v i r S' =>
    obtain ⟨a, rfl, hk, i0, i1, hv9, hh⟩ := hh
    obtain ⟨dom, q0, h1, h2, hP, hD, e1, e2⟩ := hR.mem (n := a) (by omega)
    rw [cel_arr (by omega), ael_r (by omega)] at e2
    have hl := hR.2.2.2.1 a
    have hT := hR.arr (n := a) (by omega) cK.1
    rw [hk, aty_obj] at hT
    have e9 : cel cA ad (setR h a i v) a = .inl (cA a, (Ln h a).toNat, .inr (.inr (.inr (.inr (va_up (fun j => (Mr h a (j : Int)).map ad) (Int32.ofInt i).toNatClampNeg (v.map ad)))))) := by
      rw [cel_arr (h := setR h a i v) (by rw [Kd_setR]; omega), ael_r (h := setR h a i v) (by rw [Kd_setR]; omega), Ln_setR]
      congr 7
      funext j
      unfold va_up
      rw [Mr_setR, i32_cl i0 (by omega)]
      by_cases e : j = i.toNat
      · rw [if_pos e, if_pos ⟨rfl, by omega⟩]
      · rw [if_neg e, if_neg (fun q => e (by omega))]
    have K9 : ∀ (H1 : Heap) (locs1 : List Loc), va_P D vwCl ((wsO cA ad h dom).set q0 (ad a, .inl (cA a, (Ln h a).toNat, .inr (.inr (.inr (.inr (va_up (fun j => (Mr h a (j : Int)).map ad) (Int32.ofInt i).toNatClampNeg (v.map ad)))))))) H1 → va_D A ((wsO cA ad h dom).set q0 (ad a, .inl (cA a, (Ln h a).toNat, .inr (.inr (.inr (.inr (va_up (fun j => (Mr h a (j : Int)).map ad) (Int32.ofInt i).toNatClampNeg (v.map ad)))))))) → va_S A s.heap H1 locs1 →
        W p l e R s m args below meth cd H1 locs1 cells slots (vx_MQ below (Qn D P ad0 dm0 A) (Xn D P ad0 dm0 A) args s (kC K) (kS K) A) (F0 m (pc + 1) ls (S'.map (tv ad))) := by
      intro H1 locs1 hP1 hD1 hS1
      refine hq L S' (setR h a i v) c sl hh l p e R s m args below meth cd D A ad0 dm0 C ad cA H1 locs1 ls cells slots (hR.upd h1 h2 e1 rfl rfl (fun m hm => cel_setR_ne hm) hR.2.2.1 ?_ (by rw [e9]; exact hP1) (by rw [e9]; exact hD1)) hS1 he hL (sok_tl (sok_tl (sok_tl hSk))) hc hs
      intro n k9 n' hn'
      rw [Mr_setR] at hn'
      split at hn'
      · rw [hv9 n' hn']; omega
      · exact hR.2.2.2.2.2.1 n k9 n' hn'
    cases v with
    | none => exact va_astqN cx cb hT hP hD hS q0 0 e2 rfl (i32_in i0 i1 hl.2) hd K9
    | some n =>
      have hkn := hv9 n rfl
      obtain ⟨qk, e3⟩ : ∃ qk : Nat, (wsO cA ad h dom)[qk]? = some (ad n, cel cA ad h n) := by
        obtain ⟨qk, -, e3⟩ := wsO_get (cA := cA) (ad := ad) (h := h) ((h2 n).mpr (by omega))
        exact ⟨qk, e3⟩
      rw [cel_obj hkn hci] at e3
      exact va_astq cx cb hT hP hD hS q0 0 qk ci (r := (rX ci, tX ci, nF ci)) e2 rfl e3 (vw_at ci hci) (i32_in i0 i1 hl.2) hd K9
  next => exact hh.elim
