-- what a wrapper leaves, in one form (by gen_law.py)
theorem pin_v {r a : Int} (h : r = 0 ↔ a = -1) : (if r = 0 then (0 : Int) else 1) = if a = -1 then 0 else 1 := by
  by_cases z : r = 0
  · rw [if_pos z, if_pos (h.mp z)]
  · rw [if_neg z, if_neg (fun q => z (h.mpr q))]
theorem pub_ne {A : AS} {a : Int} (V : IvV A) (h : th_publish A a = 0) : ¬ exv A (6 * a + A 2 a 0) := by
  have hx : isA A a ∧ canP A a := by
    unfold th_publish at h
    by_cases y : isA A a
    · rw [if_neg (fun q => q y)] at h
      by_cases w : canP A a
      · exact ⟨y, w⟩
      · rw [cif_neg w] at h; omega
    · rw [if_pos y] at h; omega
  obtain ⟨ha, hc⟩ := hx
  have h6 := hc.1
  have a0 := ha.1
  have a1 := ha.2
  have va := V.2.1
  have v2 := V.2.2.1 a a0 (by omega)
  intro q
  have q2 := q.2.2
  rw [show (6 * a + A 2 a 0) / 6 = a by omega] at q2
  omega
theorem ww_addAsset {d : Nat} (hd : 25 ≤ d) {c : Int} (hc : 0 ≤ c ∧ c ≤ 511) {A : AS} {h : Mh} {P : Out → Mh → Prop} (I : Inv c A) (R : RC A h) (M : RM A h) (k4 : Kd h 4 = 23) (l4 : Ln h 4 = 1) (H : ∀ h', RC (nx_addAsset A) h' → RM A h' → Kd h' 4 = 23 → Ln h' 4 = 1 → (th_addAsset A = 0 → Mi h' 4 0 = (A 1 0 0)) → P (.inl (some (pI (th_addAsset A)))) h') : Ct kW_addAsset d [pR (some 2), pR (some 4)] h P := by
  have Q := inv_addAsset I
  refine wo_addAsset (by omega) R I.Stx k4 l4 ?_ ?_
  · intro e h' S9 R9
    have y := H (setI h' 4 0 (A 1 0 0)) (R9.out Q.Stx) (M.sx S9).out ((S9 4 (by decide) (Or.inl (by decide))).1.trans k4) ((S9 4 (by decide) (Or.inl (by decide))).2.1.trans l4) (fun _ => by rw [Mi_setI, if_pos ⟨rfl, rfl⟩])
    rw [e] at y; exact y
  · intro e
    have y := H h (by rw [show nx_addAsset A = A from if_neg (fun q => by omega)]; exact R) M k4 l4 (fun z => by omega)
    rw [e] at y; exact y
theorem ww_content {d : Nat} (hd : 25 ≤ d) {c : Int} (hc : 0 ≤ c ∧ c ≤ 511) {A : AS} {h : Mh} {P : Out → Mh → Prop} {x : Int} (I : Inv c A) (R : RC A h) (M : RM A h) (k4 : Kd h 4 = 23) (l4 : Ln h 4 = 1) (H : ∀ h', RC (nx_content A x) h' → RM A h' → Kd h' 4 = 23 → Ln h' 4 = 1 → (th_content x = 0 → Mi h' 4 0 = (A 11 0 0)) → P (.inl (some (pI (th_content x)))) h') : Ct kW_content d [pR (some 2), pI x, pR (some 4)] h P := by
  have Q := inv_content I (x := x)
  refine wo_content (by omega) R I.Stx k4 l4 ?_ ?_
  · intro e h' S9 R9
    have y := H (setI h' 4 0 (A 11 0 0)) (R9.out Q.Stx) (M.sx S9).out ((S9 4 (by decide) (Or.inl (by decide))).1.trans k4) ((S9 4 (by decide) (Or.inl (by decide))).2.1.trans l4) (fun _ => by rw [Mi_setI, if_pos ⟨rfl, rfl⟩])
    rw [e] at y; exact y
  · intro e
    have y := H h (by rw [show nx_content A x = A from if_neg (fun q => by omega)]; exact R) M k4 l4 (fun z => by omega)
    rw [e] at y; exact y
theorem ww_constrain {d : Nat} (hd : 25 ≤ d) {c : Int} (hc : 0 ≤ c ∧ c ≤ 511) {A : AS} {h : Mh} {P : Out → Mh → Prop} {k t s n : Int} (I : Inv c A) (R : RC A h) (M : RM A h) (k4 : Kd h 4 = 23) (l4 : Ln h 4 = 1) (H : ∀ h', RC (nx_constrain A k t s n) h' → RM A h' → Kd h' 4 = 23 → Ln h' 4 = 1 → (th_constrain A k t s n = 0 → Mi h' 4 0 = (A 12 0 0 + 1)) → P (.inl (some (pI (th_constrain A k t s n)))) h') : Ct kW_constrain d [pR (some 2), pI k, pI t, pI s, pI n, pR (some 4)] h P := by
  have Q := inv_constrain I (k := k) (t := t) (s := s) (n := n)
  refine wo_constrain (by omega) R I.Stx k4 l4 ?_ ?_ ?_ ?_
  · intro e h' S9 R9
    have y := H (setI h' 4 0 (A 12 0 0 + 1)) (R9.out Q.Stx) (M.sx S9).out ((S9 4 (by decide) (Or.inl (by decide))).1.trans k4) ((S9 4 (by decide) (Or.inl (by decide))).2.1.trans l4) (fun _ => by rw [Mi_setI, if_pos ⟨rfl, rfl⟩])
    rw [e] at y; exact y
  · intro e
    have y := H h (by rw [show nx_constrain A k t s n = A from if_neg (fun q => by omega)]; exact R) M k4 l4 (fun z => by omega)
    rw [e] at y; exact y
  · intro e
    have y := H h (by rw [show nx_constrain A k t s n = A from if_neg (fun q => by omega)]; exact R) M k4 l4 (fun z => by omega)
    rw [e] at y; exact y
  · intro e
    have y := H h (by rw [show nx_constrain A k t s n = A from if_neg (fun q => by omega)]; exact R) M k4 l4 (fun z => by omega)
    rw [e] at y; exact y
theorem ww_parent {d : Nat} (hd : 25 ≤ d) {c : Int} (hc : 0 ≤ c ∧ c ≤ 511) {A : AS} {h : Mh} {P : Out → Mh → Prop} {a v : Int} (I : Inv c A) (R : RC A h) (M : RM A h) (k4 : Kd h 4 = 23) (l4 : Ln h 4 = 1) (H : ∀ h', RC (nx_parent A a v) h' → RM A h' → Kd h' 4 = 23 → Ln h' 4 = 1 → (th_parent A a v = 0 → Mi h' 4 0 = (A 14 0 0 + 1)) → P (.inl (some (pI (th_parent A a v)))) h') : Ct kW_parent d [pR (some 2), pI a, pI v, pR (some 4)] h P := by
  have Q := inv_parent I (a := a) (v := v)
  refine wo_parent (by omega) R I.Stx k4 l4 ?_ ?_ ?_
  · intro e h' S9 R9
    have y := H (setI h' 4 0 (A 14 0 0 + 1)) (R9.out Q.Stx) (M.sx S9).out ((S9 4 (by decide) (Or.inl (by decide))).1.trans k4) ((S9 4 (by decide) (Or.inl (by decide))).2.1.trans l4) (fun _ => by rw [Mi_setI, if_pos ⟨rfl, rfl⟩])
    rw [e] at y; exact y
  · intro e
    have y := H h (by rw [show nx_parent A a v = A from if_neg (fun q => by omega)]; exact R) M k4 l4 (fun z => by omega)
    rw [e] at y; exact y
  · intro e
    have y := H h (by rw [show nx_parent A a v = A from if_neg (fun q => by omega)]; exact R) M k4 l4 (fun z => by omega)
    rw [e] at y; exact y
theorem ww_publish {d : Nat} (hd : 25 ≤ d) {c : Int} (hc : 0 ≤ c ∧ c ≤ 511) {A : AS} {h : Mh} {P : Out → Mh → Prop} {a : Int} (I : Inv c A) (R : RC A h) (M : RM A h) (k4 : Kd h 4 = 23) (l4 : Ln h 4 = 1) (H : ∀ h', RC (nx_publish A a) h' → RM A h' → Kd h' 4 = 23 → Ln h' 4 = 1 → (th_publish A a = 0 → Mi h' 4 0 = (A 2 a 0 + 1)) → P (.inl (some (pI (th_publish A a)))) h') : Ct kW_publish d [pR (some 2), pI a, pR (some 4)] h P := by
  have Q := inv_publish I (a := a)
  refine wo_publish (by omega) R I.Stx I.2.2.1 I.2.2.2.1 I.2.2.2.2.2.2.1.1 (fun e => pub_G I.1 I.2.2.2.2.2.2.2.1 (fun _ _ => trivial) (pub_ne I.1 e)) (pub_room I.1 I.2.2.2.2.2.2.2.1) k4 l4 ?_ ?_ ?_
  · intro e h' S9 R9
    have y := H (setI h' 4 0 (A 2 a 0 + 1)) (R9.out Q.Stx) (M.sx S9).out ((S9 4 (by decide) (Or.inl (by decide))).1.trans k4) ((S9 4 (by decide) (Or.inl (by decide))).2.1.trans l4) (fun _ => by rw [Mi_setI, if_pos ⟨rfl, rfl⟩])
    rw [e] at y; exact y
  · intro e
    have y := H h (by rw [show nx_publish A a = A from cif_neg (fun q => by omega)]; exact R) M k4 l4 (fun z => by omega)
    rw [e] at y; exact y
  · intro e
    have y := H h (by rw [show nx_publish A a = A from cif_neg (fun q => by omega)]; exact R) M k4 l4 (fun z => by omega)
    rw [e] at y; exact y
theorem ww_retract {d : Nat} (hd : 25 ≤ d) {c : Int} (hc : 0 ≤ c ∧ c ≤ 511) {A : AS} {h : Mh} {P : Out → Mh → Prop} {a v : Int} (I : Inv c A) (R : RC A h) (M : RM A h) (k4 : Kd h 4 = 23) (l4 : Ln h 4 = 1) (H : ∀ h', RC (nx_retract A a v) h' → RM A h' → Kd h' 4 = 23 → Ln h' 4 = 1 → (th_retract A a v = 0 → Mi h' 4 0 = (rs_retract A a v)) → P (.inl (some (pI (th_retract A a v)))) h') : Ct kW_retract d [pR (some 2), pI a, pI v, pR (some 4)] h P := by
  have Q := inv_retract I (a := a) (v := v)
  refine wo_retract (by omega) R I.Stx I.2.2.1 k4 l4 ?_ ?_ ?_
  · intro e h' S9 R9
    have y := H (setI h' 4 0 (rs_retract A a v)) (R9.out Q.Stx) (M.sx S9).out ((S9 4 (by decide) (Or.inl (by decide))).1.trans k4) ((S9 4 (by decide) (Or.inl (by decide))).2.1.trans l4) (fun _ => by rw [Mi_setI, if_pos ⟨rfl, rfl⟩])
    rw [e] at y; exact y
  · intro e
    have y := H h (by rw [show nx_retract A a v = A from if_neg (fun q => by omega)]; exact R) M k4 l4 (fun z => by omega)
    rw [e] at y; exact y
  · intro e
    have y := H h (by rw [show nx_retract A a v = A from if_neg (fun q => by omega)]; exact R) M k4 l4 (fun z => by omega)
    rw [e] at y; exact y
theorem ww_approve {d : Nat} (hd : 25 ≤ d) {c : Int} (hc : 0 ≤ c ∧ c ≤ 511) {A : AS} {h : Mh} {P : Out → Mh → Prop} {a v : Int} (I : Inv c A) (R : RC A h) (M : RM A h) (k4 : Kd h 4 = 23) (l4 : Ln h 4 = 1) (H : ∀ h', RC (nx_approve A a v) h' → RM A h' → Kd h' 4 = 23 → Ln h' 4 = 1 → (th_approve A a v = 0 → Mi h' 4 0 = (if (A 10 (6 * a + v - 1) 0) = 0 then 0 else 1)) → P (.inl (some (pI (th_approve A a v)))) h') : Ct kW_approve d [pR (some 2), pI a, pI v, pR (some 4)] h P := by
  have Q := inv_approve I (a := a) (v := v)
  refine wo_approve (by omega) R I.Stx k4 l4 ?_ ?_ ?_
  · intro e h' S9 R9
    have y := H (setI h' 4 0 (if (A 10 (6 * a + v - 1) 0) = 0 then 0 else 1)) (R9.out Q.Stx) (M.sx S9).out ((S9 4 (by decide) (Or.inl (by decide))).1.trans k4) ((S9 4 (by decide) (Or.inl (by decide))).2.1.trans l4) (fun _ => by rw [Mi_setI, if_pos ⟨rfl, rfl⟩])
    rw [e] at y; exact y
  · intro e
    have y := H h (by rw [show nx_approve A a v = A from cif_neg (fun q => by omega)]; exact R) M k4 l4 (fun z => by omega)
    rw [e] at y; exact y
  · intro e
    have y := H h (by rw [show nx_approve A a v = A from cif_neg (fun q => by omega)]; exact R) M k4 l4 (fun z => by omega)
    rw [e] at y; exact y
theorem ww_addShot {d : Nat} (hd : 25 ≤ d) {c : Int} (hc : 0 ≤ c ∧ c ≤ 511) {A : AS} {h : Mh} {P : Out → Mh → Prop} {m : Int} (I : Inv c A) (R : RC A h) (M : RM A h) (k4 : Kd h 4 = 23) (l4 : Ln h 4 = 1) (H : ∀ h', (∀ g, (th_addShot A m = 0 → newF A (A 16 0 0) m g) → RC (nx_addShot A m g) h') → RM A h' → Kd h' 4 = 23 → Ln h' 4 = 1 → (th_addShot A m = 0 → Mi h' 4 0 = (A 16 0 0)) → P (.inl (some (pI (th_addShot A m)))) h') : Ct kW_addShot d [pR (some 2), pI m, pR (some 4)] h P := by
  refine wo_addShot (by omega) R I.Stx I.2.2.1 I.2.2.2.1 I.2.2.2.2.1 I.2.2.2.2.2.1 k4 l4 ?_ ?_ ?_
  · intro e h' S9 R9
    have y := H (setI h' 4 0 (A 16 0 0)) (fun g hg => (R9 g (hg e)).out (inv_addShot I hg).Stx) (M.sx S9).out ((S9 4 (by decide) (Or.inl (by decide))).1.trans k4) ((S9 4 (by decide) (Or.inl (by decide))).2.1.trans l4) (fun _ => by rw [Mi_setI, if_pos ⟨rfl, rfl⟩])
    rw [e] at y; exact y
  · intro e
    have y := H h (fun g _ => by rw [show nx_addShot A m g = A from if_neg (fun q => by omega)]; exact R) M k4 l4 (fun z => by omega)
    rw [e] at y; exact y
  · intro e
    have y := H h (fun g _ => by rw [show nx_addShot A m g = A from if_neg (fun q => by omega)]; exact R) M k4 l4 (fun z => by omega)
    rw [e] at y; exact y
theorem ww_pin {d : Nat} (hd : 25 ≤ d) {c : Int} (hc : 0 ≤ c ∧ c ≤ 511) {A : AS} {h : Mh} {P : Out → Mh → Prop} {s k a v : Int} (I : Inv c A) (R : RC A h) (M : RM A h) (k4 : Kd h 4 = 23) (l4 : Ln h 4 = 1) (H : ∀ h', RC (nx_pin A s k a v) h' → RM A h' → Kd h' 4 = 23 → Ln h' 4 = 1 → (th_pin A s k a v = 0 → Mi h' 4 0 = (if A 22 s k = -1 then 0 else 1)) → P (.inl (some (pI (th_pin A s k a v)))) h') : Ct kW_pin d [pR (some 2), pI s, pI k, pI a, pI v, pR (some 4)] h P := by
  have Q := inv_pin I (s := s) (k := k) (a := a) (v := v)
  refine wo_pin (by omega) R I.Stx I.2.2.1 k4 l4 ?_ ?_ ?_
  · intro e h' r z2 z3 S9 R9
    have y := H (setI h' 4 0 (if r = 0 then 0 else 1)) (R9.out Q.Stx) (M.sx S9).out ((S9 4 (by decide) (Or.inl (by decide))).1.trans k4) ((S9 4 (by decide) (Or.inl (by decide))).2.1.trans l4) (fun _ => by rw [Mi_setI, if_pos ⟨rfl, rfl⟩]; exact pin_v z3)
    rw [e] at y; exact y
  · intro e
    have y := H h (by rw [show nx_pin A s k a v = A from if_neg (fun q => by omega)]; exact R) M k4 l4 (fun z => by omega)
    rw [e] at y; exact y
  · intro e
    have y := H h (by rw [show nx_pin A s k a v = A from if_neg (fun q => by omega)]; exact R) M k4 l4 (fun z => by omega)
    rw [e] at y; exact y
theorem ww_key {d : Nat} (hd : 25 ≤ d) {c : Int} (hc : 0 ≤ c ∧ c ≤ 511) {A : AS} {h : Mh} {P : Out → Mh → Prop} {s sl ch p x : Int} (I : Inv c A) (R : RC A h) (M : RM A h) (k4 : Kd h 4 = 23) (l4 : Ln h 4 = 1) (H : ∀ h', RC (nx_key A s sl ch p x) h' → RM A h' → Kd h' 4 = 23 → Ln h' 4 = 1 → (th_key A s sl ch p x = 0 → Mi h' 4 0 = (kyn A s sl ch p)) → P (.inl (some (pI (th_key A s sl ch p x)))) h') : Ct kW_key d [pR (some 2), pI s, pI sl, pI ch, pI p, pI x, pR (some 4)] h P := by
  have Q := inv_key I (s := s) (sl := sl) (ch := ch) (p := p) (x := x)
  refine wo_key (by omega) R I.Stx I.2.2.1 k4 l4 ?_ ?_ ?_ ?_
  · intro e h' S9 R9
    have y := H (setI h' 4 0 (kyn A s sl ch p)) (R9.out Q.Stx) (M.sx S9).out ((S9 4 (by decide) (Or.inl (by decide))).1.trans k4) ((S9 4 (by decide) (Or.inl (by decide))).2.1.trans l4) (fun _ => by rw [Mi_setI, if_pos ⟨rfl, rfl⟩])
    rw [e] at y; exact y
  · intro e
    have y := H h (by rw [show nx_key A s sl ch p x = A from if_neg (fun q => by omega)]; exact R) M k4 l4 (fun z => by omega)
    rw [e] at y; exact y
  · intro e
    have y := H h (by rw [show nx_key A s sl ch p x = A from if_neg (fun q => by omega)]; exact R) M k4 l4 (fun z => by omega)
    rw [e] at y; exact y
  · intro e
    have y := H h (by rw [show nx_key A s sl ch p x = A from if_neg (fun q => by omega)]; exact R) M k4 l4 (fun z => by omega)
    rw [e] at y; exact y
theorem ww_dropKey {d : Nat} (hd : 25 ≤ d) {c : Int} (hc : 0 ≤ c ∧ c ≤ 511) {A : AS} {h : Mh} {P : Out → Mh → Prop} {s sl ch p : Int} (I : Inv c A) (R : RC A h) (M : RM A h) (k4 : Kd h 4 = 23) (l4 : Ln h 4 = 1) (H : ∀ h', RC (nx_dropKey A s sl ch p) h' → RM A h' → Kd h' 4 = 23 → Ln h' 4 = 1 → (th_dropKey A s sl ch p = 0 → Mi h' 4 0 = (A 23 s 0 - 1)) → P (.inl (some (pI (th_dropKey A s sl ch p)))) h') : Ct kW_dropKey d [pR (some 2), pI s, pI sl, pI ch, pI p, pR (some 4)] h P := by
  have Q := inv_dropKey I (s := s) (sl := sl) (ch := ch) (p := p)
  refine wo_dropKey (by omega) R I.Stx I.2.2.1 k4 l4 ?_ ?_ ?_
  · intro e h' S9 R9
    have y := H (setI h' 4 0 (A 23 s 0 - 1)) (R9.out Q.Stx) (M.sx S9).out ((S9 4 (by decide) (Or.inl (by decide))).1.trans k4) ((S9 4 (by decide) (Or.inl (by decide))).2.1.trans l4) (fun _ => by rw [Mi_setI, if_pos ⟨rfl, rfl⟩])
    rw [e] at y; exact y
  · intro e
    have y := H h (by rw [show nx_dropKey A s sl ch p = A from if_neg (fun q => by omega)]; exact R) M k4 l4 (fun z => by omega)
    rw [e] at y; exact y
  · intro e
    have y := H h (by rw [show nx_dropKey A s sl ch p = A from if_neg (fun q => by omega)]; exact R) M k4 l4 (fun z => by omega)
    rw [e] at y; exact y
theorem ww_setLook {d : Nat} (hd : 25 ≤ d) {c : Int} (hc : 0 ≤ c ∧ c ≤ 511) {A : AS} {h : Mh} {P : Out → Mh → Prop} {s k z : Int} (I : Inv c A) (R : RC A h) (M : RM A h) (k4 : Kd h 4 = 23) (l4 : Ln h 4 = 1) (H : ∀ h', RC (nx_setLook A s k z) h' → RM A h' → Kd h' 4 = 23 → Ln h' 4 = 1 → P (.inl (some (pI (th_setLook A s k z)))) h') : Ct kW_setLook d [pR (some 2), pI s, pI k, pI z] h P := by
  have Q := inv_setLook I (s := s) (k := k) (z := z)
  refine wo_setLook (by omega) R I.Stx ?_ ?_ ?_
  · intro e h' S9 R9
    have y := H h' R9 (M.sx S9) ((S9 4 (by decide) (Or.inl (by decide))).1.trans k4) ((S9 4 (by decide) (Or.inl (by decide))).2.1.trans l4)
    rw [e] at y; exact y
  · intro e
    have y := H h (by rw [show nx_setLook A s k z = A from if_neg (fun q => by omega)]; exact R) M k4 l4
    rw [e] at y; exact y
  · intro e
    have y := H h (by rw [show nx_setLook A s k z = A from if_neg (fun q => by omega)]; exact R) M k4 l4
    rw [e] at y; exact y
theorem ww_insert {d : Nat} (hd : 25 ≤ d) {c : Int} (hc : 0 ≤ c ∧ c ≤ 511) {A : AS} {h : Mh} {P : Out → Mh → Prop} {s p m : Int} (I : Inv c A) (R : RC A h) (M : RM A h) (k4 : Kd h 4 = 23) (l4 : Ln h 4 = 1) (H : ∀ h', (∀ g, (th_insert A s p m = 0 → newF A s m g) → RC (nx_insert A s p m g) h') → RM A h' → Kd h' 4 = 23 → Ln h' 4 = 1 → (th_insert A s p m = 0 → Mi h' 4 0 = (A 17 s 0 + m)) → P (.inl (some (pI (th_insert A s p m)))) h') : Ct kW_insert d [pR (some 2), pI s, pI p, pI m, pR (some 4)] h P := by
  refine wo_insert (by omega) (by omega) R I.Stx I.2.2.1 I.2.2.2.1 I.2.2.2.2.1 I.2.2.2.2.2.1 k4 l4 ?_ ?_ ?_ ?_
  · intro e h' S9 R9
    have y := H (setI h' 4 0 (A 17 s 0 + m)) (fun g hg => (R9 g (hg e)).out (inv_insert I hg).Stx) (M.sx S9).out ((S9 4 (by decide) (Or.inl (by decide))).1.trans k4) ((S9 4 (by decide) (Or.inl (by decide))).2.1.trans l4) (fun _ => by rw [Mi_setI, if_pos ⟨rfl, rfl⟩])
    rw [e] at y; exact y
  · intro e
    have y := H h (fun g _ => by rw [show nx_insert A s p m g = A from if_neg (fun q => by omega)]; exact R) M k4 l4 (fun z => by omega)
    rw [e] at y; exact y
  · intro e
    have y := H h (fun g _ => by rw [show nx_insert A s p m g = A from if_neg (fun q => by omega)]; exact R) M k4 l4 (fun z => by omega)
    rw [e] at y; exact y
  · intro e
    have y := H h (fun g _ => by rw [show nx_insert A s p m g = A from if_neg (fun q => by omega)]; exact R) M k4 l4 (fun z => by omega)
    rw [e] at y; exact y
theorem ww_cut {d : Nat} (hd : 25 ≤ d) {c : Int} (hc : 0 ≤ c ∧ c ≤ 511) {A : AS} {h : Mh} {P : Out → Mh → Prop} {s p m : Int} (I : Inv c A) (R : RC A h) (M : RM A h) (k4 : Kd h 4 = 23) (l4 : Ln h 4 = 1) (H : ∀ h', RC (nx_cut A s p m) h' → RM A h' → Kd h' 4 = 23 → Ln h' 4 = 1 → (th_cut A s p m = 0 → Mi h' 4 0 = (A 17 s 0 - m)) → P (.inl (some (pI (th_cut A s p m)))) h') : Ct kW_cut d [pR (some 2), pI s, pI p, pI m, pR (some 4)] h P := by
  have Q := inv_cut I (s := s) (pl := p) (m := m)
  refine wo_cut (by omega) R I.Stx I.2.2.1 I.2.2.2.1 I.2.2.2.2.1 I.2.2.2.2.2.1 I.2.2.2.2.2.2.2.2.2 k4 l4 ?_ ?_ ?_ ?_
  · intro e h' S9 R9
    have y := H (setI h' 4 0 (A 17 s 0 - m)) (R9.out Q.Stx) (M.sx S9).out ((S9 4 (by decide) (Or.inl (by decide))).1.trans k4) ((S9 4 (by decide) (Or.inl (by decide))).2.1.trans l4) (fun _ => by rw [Mi_setI, if_pos ⟨rfl, rfl⟩])
    rw [e] at y; exact y
  · intro e
    have y := H h (by rw [show nx_cut A s p m = A from if_neg (fun q => by omega)]; exact R) M k4 l4 (fun z => by omega)
    rw [e] at y; exact y
  · intro e
    have y := H h (by rw [show nx_cut A s p m = A from if_neg (fun q => by omega)]; exact R) M k4 l4 (fun z => by omega)
    rw [e] at y; exact y
  · intro e
    have y := H h (by rw [show nx_cut A s p m = A from if_neg (fun q => by omega)]; exact R) M k4 l4 (fun z => by omega)
    rw [e] at y; exact y
theorem ww_move {d : Nat} (hd : 25 ≤ d) {c : Int} (hc : 0 ≤ c ∧ c ≤ 511) {A : AS} {h : Mh} {P : Out → Mh → Prop} {s p m to : Int} (I : Inv c A) (R : RC A h) (M : RM A h) (k4 : Kd h 4 = 23) (l4 : Ln h 4 = 1) (H : ∀ h', RC (nx_move A s p m to) h' → RM A h' → Kd h' 4 = 23 → Ln h' 4 = 1 → P (.inl (some (pI (th_move A s p m to)))) h') : Ct kW_move d [pR (some 2), pI s, pI p, pI m, pI to] h P := by
  have Q := inv_move I (s := s) (p := p) (m := m) (to := to)
  refine wo_move (by omega) R I.Stx I.2.2.1 ?_ ?_ ?_
  · intro e h' S9 R9
    have y := H h' R9 (M.sx S9) ((S9 4 (by decide) (Or.inl (by decide))).1.trans k4) ((S9 4 (by decide) (Or.inl (by decide))).2.1.trans l4)
    rw [e] at y; exact y
  · intro e
    have y := H h (by rw [show nx_move A s p m to = A from if_neg (fun q => by omega)]; exact R) M k4 l4
    rw [e] at y; exact y
  · intro e
    have y := H h (by rw [show nx_move A s p m to = A from if_neg (fun q => by omega)]; exact R) M k4 l4
    rw [e] at y; exact y
theorem ww_approveShot {d : Nat} (hd : 25 ≤ d) {c : Int} (hc : 0 ≤ c ∧ c ≤ 511) {A : AS} {h : Mh} {P : Out → Mh → Prop} {s : Int} (I : Inv c A) (R : RC A h) (M : RM A h) (k4 : Kd h 4 = 23) (l4 : Ln h 4 = 1) (H : ∀ h', RC (nx_approveShot A s) h' → RM A h' → Kd h' 4 = 23 → Ln h' 4 = 1 → (th_approveShot A s = 0 → Mi h' 4 0 = (if (A 31 s 0) = 0 then 0 else 1)) → P (.inl (some (pI (th_approveShot A s)))) h') : Ct kW_approveShot d [pR (some 2), pI s, pR (some 4)] h P := by
  have Q := inv_approveShot I (s := s)
  refine wo_approveShot (by omega) R I.Stx I.2.2.1 I.2.2.2.2.2.1 k4 l4 ?_ ?_ ?_
  · intro e h' S9 R9
    have y := H (setI h' 4 0 (if (A 31 s 0) = 0 then 0 else 1)) (R9.out Q.Stx) (M.sx S9).out ((S9 4 (by decide) (Or.inl (by decide))).1.trans k4) ((S9 4 (by decide) (Or.inl (by decide))).2.1.trans l4) (fun _ => by rw [Mi_setI, if_pos ⟨rfl, rfl⟩])
    rw [e] at y; exact y
  · intro e
    have y := H h (by rw [show nx_approveShot A s = A from cif_neg (fun q => by omega)]; exact R) M k4 l4 (fun z => by omega)
    rw [e] at y; exact y
  · intro e
    have y := H h (by rw [show nx_approveShot A s = A from cif_neg (fun q => by omega)]; exact R) M k4 l4 (fun z => by omega)
    rw [e] at y; exact y
theorem ww_addMachine {d : Nat} (hd : 25 ≤ d) {c : Int} (hc : 0 ≤ c ∧ c ≤ 511) {A : AS} {h : Mh} {P : Out → Mh → Prop} {f w : Int} (I : Inv c A) (R : RC A h) (M : RM A h) (k4 : Kd h 4 = 23) (l4 : Ln h 4 = 1) (H : ∀ h', RC (nx_addMachine A f w) h' → RM A h' → Kd h' 4 = 23 → Ln h' 4 = 1 → (th_addMachine A f w = 0 → Mi h' 4 0 = (A 36 0 0)) → P (.inl (some (pI (th_addMachine A f w)))) h') : Ct kW_addMachine d [pR (some 2), pI f, pI w, pR (some 4)] h P := by
  have Q := inv_addMachine I (f := f) (w := w)
  refine wo_addMachine (by omega) R I.Stx I.2.2.1 I.2.2.2.2.1 k4 l4 ?_ ?_ ?_
  · intro e h' S9 R9
    have y := H (setI h' 4 0 (A 36 0 0)) (R9.out Q.Stx) (M.sx S9).out ((S9 4 (by decide) (Or.inl (by decide))).1.trans k4) ((S9 4 (by decide) (Or.inl (by decide))).2.1.trans l4) (fun _ => by rw [Mi_setI, if_pos ⟨rfl, rfl⟩])
    rw [e] at y; exact y
  · intro e
    have y := H h (by rw [show nx_addMachine A f w = A from if_neg (fun q => by omega)]; exact R) M k4 l4 (fun z => by omega)
    rw [e] at y; exact y
  · intro e
    have y := H h (by rw [show nx_addMachine A f w = A from if_neg (fun q => by omega)]; exact R) M k4 l4 (fun z => by omega)
    rw [e] at y; exact y
theorem ww_setDisk {d : Nat} (hd : 25 ≤ d) {c : Int} (hc : 0 ≤ c ∧ c ≤ 511) {A : AS} {h : Mh} {P : Out → Mh → Prop} {x : Int} (I : Inv c A) (R : RC A h) (M : RM A h) (k4 : Kd h 4 = 23) (l4 : Ln h 4 = 1) (H : ∀ h', RC (nx_setDisk A x) h' → RM A h' → Kd h' 4 = 23 → Ln h' 4 = 1 → (th_setDisk x = 0 → Mi h' 4 0 = (A 35 0 0)) → P (.inl (some (pI (th_setDisk x)))) h') : Ct kW_setDisk d [pR (some 2), pI x, pR (some 4)] h P := by
  have Q := inv_setDisk I (x := x)
  refine wo_setDisk (by omega) R I.Stx k4 l4 ?_ ?_
  · intro e h' S9 R9
    have y := H (setI h' 4 0 (A 35 0 0)) (R9.out Q.Stx) (M.sx S9).out ((S9 4 (by decide) (Or.inl (by decide))).1.trans k4) ((S9 4 (by decide) (Or.inl (by decide))).2.1.trans l4) (fun _ => by rw [Mi_setI, if_pos ⟨rfl, rfl⟩])
    rw [e] at y; exact y
  · intro e
    have y := H h (by rw [show nx_setDisk A x = A from if_neg (fun q => by omega)]; exact R) M k4 l4 (fun z => by omega)
    rw [e] at y; exact y
theorem ww_render {d : Nat} (hd : 25 ≤ d) {c : Int} (hc : 0 ≤ c ∧ c ≤ 511) {A : AS} {h : Mh} {P : Out → Mh → Prop} {s : Int} (I : Inv c A) (R : RC A h) (M : RM A h) (k4 : Kd h 4 = 23) (l4 : Ln h 4 = 1) (H : ∀ h', RC (nx_render A s) h' → RM A h' → Kd h' 4 = 23 → Ln h' 4 = 1 → (th_shot A s = 0 → Mi h' 4 0 = (nx_render A s 42 0 0 - A 42 0 0)) → P (.inl (some (pI (th_shot A s)))) h') : Ct kW_render d [pR (some 2), pI s, pR (some 4)] h P := by
  have Q := inv_render I (s := s)
  refine wo_render (by omega) R I.Stx I.2.2.1 I.2.2.2.1 I.2.2.2.2.2.2.2.2.1 I.2.2.2.2.1 k4 l4 ?_ ?_
  · intro e h' S9 R9
    have y := H (setI h' 4 0 (nx_render A s 42 0 0 - A 42 0 0)) (R9.out Q.Stx) (M.sx S9).out ((S9 4 (by decide) (Or.inl (by decide))).1.trans k4) ((S9 4 (by decide) (Or.inl (by decide))).2.1.trans l4) (fun _ => by rw [Mi_setI, if_pos ⟨rfl, rfl⟩])
    rw [e] at y; exact y
  · intro e
    have y := H h (by rw [show nx_render A s = A from if_neg (fun q => by omega)]; exact R) M k4 l4 (fun z => by omega)
    rw [e] at y; exact y
theorem ww_dropImages {d : Nat} (hd : 25 ≤ d) {c : Int} (hc : 0 ≤ c ∧ c ≤ 511) {A : AS} {h : Mh} {P : Out → Mh → Prop} {s : Int} (I : Inv c A) (R : RC A h) (M : RM A h) (k4 : Kd h 4 = 23) (l4 : Ln h 4 = 1) (H : ∀ h', RC (nx_dropImages A s) h' → RM A h' → Kd h' 4 = 23 → Ln h' 4 = 1 → (th_shot A s = 0 → Mi h' 4 0 = (sm (dpc A s) (A 17 s 0).toNat)) → P (.inl (some (pI (th_shot A s)))) h') : Ct kW_dropImages d [pR (some 2), pI s, pR (some 4)] h P := by
  have Q := inv_dropImages I (s := s)
  refine wo_dropImages (by omega) R I.Stx I.2.2.1 I.2.2.2.1 k4 l4 ?_ ?_
  · intro e h' S9 R9
    have y := H (setI h' 4 0 (sm (dpc A s) (A 17 s 0).toNat)) (R9.out Q.Stx) (M.sx S9).out ((S9 4 (by decide) (Or.inl (by decide))).1.trans k4) ((S9 4 (by decide) (Or.inl (by decide))).2.1.trans l4) (fun _ => by rw [Mi_setI, if_pos ⟨rfl, rfl⟩])
    rw [e] at y; exact y
  · intro e
    have y := H h (by rw [show nx_dropImages A s = A from if_neg (fun q => by omega)]; exact R) M k4 l4 (fun z => by omega)
    rw [e] at y; exact y
theorem ww_tick {d : Nat} (hd : 25 ≤ d) {c : Int} (hc : 0 ≤ c ∧ c ≤ 511) {A : AS} {h : Mh} {P : Out → Mh → Prop} {x : Int} (I : Inv c A) (R : RC A h) (M : RM A h) (k4 : Kd h 4 = 23) (l4 : Ln h 4 = 1) (H : ∀ h', RC (nx_tick A x) h' → RM A h' → Kd h' 4 = 23 → Ln h' 4 = 1 → (th_tick x = 0 → Mi h' 4 0 = (tckc A x.toNat)) → P (.inl (some (pI (th_tick x)))) h') : Ct kW_tick d [pR (some 2), pI x, pR (some 4)] h P := by
  have Q := inv_tick I (x := x)
  refine wo_tick (by omega) (by omega) R I.Stx I.Tv k4 l4 ?_ ?_
  · intro e h' S9 R9
    have y := H (setI h' 4 0 (tckc A x.toNat)) (R9.out Q.Stx) (M.sx S9).out ((S9 4 (by decide) (Or.inl (by decide))).1.trans k4) ((S9 4 (by decide) (Or.inl (by decide))).2.1.trans l4) (fun _ => by rw [Mi_setI, if_pos ⟨rfl, rfl⟩])
    rw [e] at y; exact y
  · intro e
    have y := H h (by rw [show nx_tick A x = A from if_neg (fun q => by omega)]; exact R) M k4 l4 (fun z => by omega)
    rw [e] at y; exact y
theorem ww_note {d : Nat} (hd : 25 ≤ d) {c : Int} (hc : 0 ≤ c ∧ c ≤ 511) {A : AS} {h : Mh} {P : Out → Mh → Prop} {s p w : Int} (I : Inv c A) (R : RC A h) (M : RM A h) (k4 : Kd h 4 = 23) (l4 : Ln h 4 = 1) (H : ∀ h', RC (nx_note A s p w) h' → RM A h' → Kd h' 4 = 23 → Ln h' 4 = 1 → (th_note A s p w = 0 → Mi h' 4 0 = (A 47 0 0)) → P (.inl (some (pI (th_note A s p w)))) h') : Ct kW_note d [pR (some 2), pI s, pI p, pI w, pR (some 4)] h P := by
  have Q := inv_note I (s := s) (p := p) (w := w)
  refine wo_note (by omega) R I.Stx I.2.2.1 I.2.2.2.2.2.1 k4 l4 ?_ ?_ ?_ ?_
  · intro e h' S9 R9
    have y := H (setI h' 4 0 (A 47 0 0)) (R9.out Q.Stx) (M.sx S9).out ((S9 4 (by decide) (Or.inl (by decide))).1.trans k4) ((S9 4 (by decide) (Or.inl (by decide))).2.1.trans l4) (fun _ => by rw [Mi_setI, if_pos ⟨rfl, rfl⟩])
    rw [e] at y; exact y
  · intro e
    have y := H h (by rw [show nx_note A s p w = A from if_neg (fun q => by omega)]; exact R) M k4 l4 (fun z => by omega)
    rw [e] at y; exact y
  · intro e
    have y := H h (by rw [show nx_note A s p w = A from if_neg (fun q => by omega)]; exact R) M k4 l4 (fun z => by omega)
    rw [e] at y; exact y
  · intro e
    have y := H h (by rw [show nx_note A s p w = A from if_neg (fun q => by omega)]; exact R) M k4 l4 (fun z => by omega)
    rw [e] at y; exact y
theorem ww_close {d : Nat} (hd : 25 ≤ d) {c : Int} (hc : 0 ≤ c ∧ c ≤ 511) {A : AS} {h : Mh} {P : Out → Mh → Prop} {n : Int} (I : Inv c A) (R : RC A h) (M : RM A h) (k4 : Kd h 4 = 23) (l4 : Ln h 4 = 1) (H : ∀ h', RC (nx_close A n) h' → RM A h' → Kd h' 4 = 23 → Ln h' 4 = 1 → (th_close A n = 0 → Mi h' 4 0 = (if (A 50 n 0) = 0 then 0 else 1)) → P (.inl (some (pI (th_close A n)))) h') : Ct kW_close d [pR (some 2), pI n, pR (some 4)] h P := by
  have Q := inv_close I (n := n)
  refine wo_close (by omega) R I.Stx I.2.2.2.2.2.1 k4 l4 ?_ ?_
  · intro e h' S9 R9
    have y := H (setI h' 4 0 (if (A 50 n 0) = 0 then 0 else 1)) (R9.out Q.Stx) (M.sx S9).out ((S9 4 (by decide) (Or.inl (by decide))).1.trans k4) ((S9 4 (by decide) (Or.inl (by decide))).2.1.trans l4) (fun _ => by rw [Mi_setI, if_pos ⟨rfl, rfl⟩])
    rw [e] at y; exact y
  · intro e
    have y := H h (by rw [show nx_close A n = A from if_neg (fun q => by omega)]; exact R) M k4 l4 (fun z => by omega)
    rw [e] at y; exact y
theorem ww_work {d : Nat} (hd : 25 ≤ d) {c : Int} (hc : 0 ≤ c ∧ c ≤ 511) {A : AS} {h : Mh} {P : Out → Mh → Prop} {s b m : Int} (I : Inv c A) (R : RC A h) (M : RM A h) (k4 : Kd h 4 = 23) (l4 : Ln h 4 = 1) (H : ∀ h', RC (nx_work A s b m) h' → RM A h' → Kd h' 4 = 23 → Ln h' 4 = 1 → (th_work A s b m = 0 → Mi h' 4 0 = (A 30 s 0 + m)) → P (.inl (some (pI (th_work A s b m)))) h') : Ct kW_work d [pR (some 2), pI s, pI b, pI m, pR (some 4)] h P := by
  have Q := inv_work I (s := s) (b := b) (m := m)
  refine wo_work (by omega) R I.Stx I.2.2.1 (by omega) k4 l4 ?_ ?_ ?_
  · intro e h' S9 R9
    have y := H (setI h' 4 0 (A 30 s 0 + m)) (R9.out Q.Stx) (M.sx S9).out ((S9 4 (by decide) (Or.inl (by decide))).1.trans k4) ((S9 4 (by decide) (Or.inl (by decide))).2.1.trans l4) (fun _ => by rw [Mi_setI, if_pos ⟨rfl, rfl⟩])
    rw [e] at y; exact y
  · intro e
    have y := H h (by rw [show nx_work A s b m = A from if_neg (fun q => by omega)]; exact R) M k4 l4 (fun z => by omega)
    rw [e] at y; exact y
  · intro e
    have y := H h (by rw [show nx_work A s b m = A from if_neg (fun q => by omega)]; exact R) M k4 l4 (fun z => by omega)
    rw [e] at y; exact y
theorem ww_deliver {d : Nat} (hd : 25 ≤ d) {c : Int} (hc : 0 ≤ c ∧ c ≤ 511) {A : AS} {h : Mh} {P : Out → Mh → Prop} {s k : Int} (I : Inv c A) (R : RC A h) (M : RM A h) (k4 : Kd h 4 = 23) (l4 : Ln h 4 = 1) (H : ∀ h', RC (nx_deliver A s k) h' → RM A h' → Kd h' 4 = 23 → Ln h' 4 = 1 → (th_deliver A s k = 0 → Mi h' 4 0 = (rs_deliver A s k)) → P (.inl (some (pI (th_deliver A s k)))) h') : Ct kW_deliver d [pR (some 2), pI s, pI k, pR (some 4)] h P := by
  have Q := inv_deliver I (s := s) (k := k)
  refine wo_deliver (by omega) (by omega) R I.Stx I.2.2.1 I.2.2.2.1 I.2.2.2.2.2.2.2.2.1 I.2.2.2.2.2.1 k4 l4 ?_ ?_ ?_ ?_
  · intro e h' S9 R9
    have y := H (setI h' 4 0 (rs_deliver A s k)) (R9.out Q.Stx) (M.sx S9).out ((S9 4 (by decide) (Or.inl (by decide))).1.trans k4) ((S9 4 (by decide) (Or.inl (by decide))).2.1.trans l4) (fun _ => by rw [Mi_setI, if_pos ⟨rfl, rfl⟩])
    rw [e] at y; exact y
  · intro e
    have y := H h (by rw [show nx_deliver A s k = A from if_neg (fun q => by omega)]; exact R) M k4 l4 (fun z => by omega)
    rw [e] at y; exact y
  · intro e
    have y := H h (by rw [show nx_deliver A s k = A from if_neg (fun q => by omega)]; exact R) M k4 l4 (fun z => by omega)
    rw [e] at y; exact y
  · intro e
    have y := H h (by rw [show nx_deliver A s k = A from if_neg (fun q => by omega)]; exact R) M k4 l4 (fun z => by omega)
    rw [e] at y; exact y
theorem ww_versions {d : Nat} (hd : 25 ≤ d) {c : Int} (hc : 0 ≤ c ∧ c ≤ 511) {A : AS} {h : Mh} {P : Out → Mh → Prop} {a : Int} (I : Inv c A) (R : RC A h) (M : RM A h) (k4 : Kd h 4 = 23) (l4 : Ln h 4 = 1) (H : ∀ h', RC A h' → RM A h' → Kd h' 4 = 23 → Ln h' 4 = 1 → (th_versions A a = 0 → Mi h' 4 0 = (A 2 a 0)) → P (.inl (some (pI (th_versions A a)))) h') : Ct kW_versions d [pR (some 2), pI a, pR (some 4)] h P := by
  refine wo_versions (by omega) R I.1 k4 l4 ?_ ?_
  · intro e
    have y := H (setI h 4 0 (A 2 a 0)) (R.out I.Stx) M.out k4 l4 (fun _ => by rw [Mi_setI, if_pos ⟨rfl, rfl⟩])
    rw [e] at y; exact y
  · intro e
    have y := H h R M k4 l4 (fun z => by omega)
    rw [e] at y; exact y
theorem ww_version {d : Nat} (hd : 25 ≤ d) {c : Int} (hc : 0 ≤ c ∧ c ≤ 511) {A : AS} {h : Mh} {P : Out → Mh → Prop} {a v w : Int} (I : Inv c A) (R : RC A h) (M : RM A h) (k4 : Kd h 4 = 23) (l4 : Ln h 4 = 1) (H : ∀ h', RC A h' → RM A h' → Kd h' 4 = 23 → Ln h' 4 = 1 → (th_version A a v w = 0 → Mi h' 4 0 = (rs_version A a v w)) → P (.inl (some (pI (th_version A a v w)))) h') : Ct kW_version d [pR (some 2), pI a, pI v, pI w, pR (some 4)] h P := by
  refine wo_version (by omega) R I.1 k4 l4 ?_ ?_ ?_
  · intro e
    have y := H (setI h 4 0 (rs_version A a v w)) (R.out I.Stx) M.out k4 l4 (fun _ => by rw [Mi_setI, if_pos ⟨rfl, rfl⟩])
    rw [e] at y; exact y
  · intro e
    have y := H h R M k4 l4 (fun z => by omega)
    rw [e] at y; exact y
  · intro e
    have y := H h R M k4 l4 (fun z => by omega)
    rw [e] at y; exact y
theorem ww_value {d : Nat} (hd : 25 ≤ d) {c : Int} (hc : 0 ≤ c ∧ c ≤ 511) {A : AS} {h : Mh} {P : Out → Mh → Prop} {a v w0 w1 w2 w3 : Int} (I : Inv c A) (R : RC A h) (M : RM A h) (k4 : Kd h 4 = 23) (l4 : Ln h 4 = 1) (H : ∀ h', RC A h' → RM A h' → Kd h' 4 = 23 → Ln h' 4 = 1 → (th_value A a v w0 w1 w2 w3 = 0 → Mi h' 4 0 = (vl A (6 * a + v - 1) (row4 w0 w1 w2 w3))) → P (.inl (some (pI (th_value A a v w0 w1 w2 w3)))) h') : Ct kW_value d [pR (some 2), pI a, pI v, pI w0, pI w1, pI w2, pI w3, pR (some 4)] h P := by
  refine wo_value (by omega) R I.Stx I.2.2.2.2.2.2.1 (by omega) k4 l4 ?_ ?_ ?_
  · intro e h' S9 R9
    have y := H (setI h' 4 0 (vl A (6 * a + v - 1) (row4 w0 w1 w2 w3))) (R9.out I.Stx) (M.sx S9).out ((S9 4 (by decide) (Or.inl (by decide))).1.trans k4) ((S9 4 (by decide) (Or.inl (by decide))).2.1.trans l4) (fun _ => by rw [Mi_setI, if_pos ⟨rfl, rfl⟩])
    rw [e] at y; exact y
  · intro e
    have y := H h R M k4 l4 (fun z => by omega)
    rw [e] at y; exact y
  · intro e
    have y := H h R M k4 l4 (fun z => by omega)
    rw [e] at y; exact y
theorem ww_shot {d : Nat} (hd : 25 ≤ d) {c : Int} (hc : 0 ≤ c ∧ c ≤ 511) {A : AS} {h : Mh} {P : Out → Mh → Prop} {s w : Int} (I : Inv c A) (R : RC A h) (M : RM A h) (k4 : Kd h 4 = 23) (l4 : Ln h 4 = 1) (H : ∀ h', RC A h' → RM A h' → Kd h' 4 = 23 → Ln h' 4 = 1 → (th_shotw A s w = 0 → Mi h' 4 0 = (rs_shot A s w)) → P (.inl (some (pI (th_shotw A s w)))) h') : Ct kW_shot d [pR (some 2), pI s, pI w, pR (some 4)] h P := by
  refine wo_shot (by omega) R I.2.2.1 I.2.2.2.2.2.1 k4 l4 ?_ ?_ ?_
  · intro e
    have y := H (setI h 4 0 (rs_shot A s w)) (R.out I.Stx) M.out k4 l4 (fun _ => by rw [Mi_setI, if_pos ⟨rfl, rfl⟩])
    rw [e] at y; exact y
  · intro e
    have y := H h R M k4 l4 (fun z => by omega)
    rw [e] at y; exact y
  · intro e
    have y := H h R M k4 l4 (fun z => by omega)
    rw [e] at y; exact y
theorem ww_frame {d : Nat} (hd : 25 ≤ d) {c : Int} (hc : 0 ≤ c ∧ c ≤ 511) {A : AS} {h : Mh} {P : Out → Mh → Prop} {s p : Int} (I : Inv c A) (R : RC A h) (M : RM A h) (k4 : Kd h 4 = 23) (l4 : Ln h 4 = 1) (H : ∀ h', RC A h' → RM A h' → Kd h' 4 = 23 → Ln h' 4 = 1 → (th_place A s p = 0 → Mi h' 4 0 = (rs_frame A s p)) → P (.inl (some (pI (th_place A s p)))) h') : Ct kW_frame d [pR (some 2), pI s, pI p, pR (some 4)] h P := by
  refine wo_frame (by omega) R I.2.2.2.2.2.2.2.1 I.2.2.1 k4 l4 ?_ ?_
  · intro e
    have y := H (setI h 4 0 (rs_frame A s p)) (R.out I.Stx) M.out k4 l4 (fun _ => by rw [Mi_setI, if_pos ⟨rfl, rfl⟩])
    rw [e] at y; exact y
  · intro e
    have y := H h R M k4 l4 (fun z => by omega)
    rw [e] at y; exact y
theorem ww_channel {d : Nat} (hd : 25 ≤ d) {c : Int} (hc : 0 ≤ c ∧ c ≤ 511) {A : AS} {h : Mh} {P : Out → Mh → Prop} {s sl ch p : Int} (I : Inv c A) (R : RC A h) (M : RM A h) (k4 : Kd h 4 = 23) (l4 : Ln h 4 = 1) (H : ∀ h', RC A h' → RM A h' → Kd h' 4 = 23 → Ln h' 4 = 1 → (th_channel A s sl ch p = 0 → Mi h' 4 0 = (chn A s (4 * sl + ch) p)) → P (.inl (some (pI (th_channel A s sl ch p)))) h') : Ct kW_channel d [pR (some 2), pI s, pI sl, pI ch, pI p, pR (some 4)] h P := by
  refine wo_channel (by omega) R I.2.2.2.2.2.2.2.1 I.2.2.1 k4 l4 ?_ ?_
  · intro e
    have y := H (setI h 4 0 (chn A s (4 * sl + ch) p)) (R.out I.Stx) M.out k4 l4 (fun _ => by rw [Mi_setI, if_pos ⟨rfl, rfl⟩])
    rw [e] at y; exact y
  · intro e
    have y := H h R M k4 l4 (fun z => by omega)
    rw [e] at y; exact y
theorem ww_image {d : Nat} (hd : 25 ≤ d) {c : Int} (hc : 0 ≤ c ∧ c ≤ 511) {A : AS} {h : Mh} {P : Out → Mh → Prop} {s p : Int} (I : Inv c A) (R : RC A h) (M : RM A h) (k4 : Kd h 4 = 23) (l4 : Ln h 4 = 1) (H : ∀ h', RC A h' → RM A h' → Kd h' 4 = 23 → Ln h' 4 = 1 → (th_place A s p = 0 → Mi h' 4 0 = (imv A s p)) → P (.inl (some (pI (th_place A s p)))) h') : Ct kW_image d [pR (some 2), pI s, pI p, pR (some 4)] h P := by
  refine wo_image (by omega) R I.Stx I.2.2.1 I.2.2.2.2.2.2.1 (by omega) k4 l4 ?_ ?_
  · intro e h' S9 R9
    have y := H (setI h' 4 0 (imv A s p)) (R9.out I.Stx) (M.sx S9).out ((S9 4 (by decide) (Or.inl (by decide))).1.trans k4) ((S9 4 (by decide) (Or.inl (by decide))).2.1.trans l4) (fun _ => by rw [Mi_setI, if_pos ⟨rfl, rfl⟩])
    rw [e] at y; exact y
  · intro e
    have y := H h R M k4 l4 (fun z => by omega)
    rw [e] at y; exact y
theorem ww_stored {d : Nat} (hd : 25 ≤ d) {c : Int} (hc : 0 ≤ c ∧ c ≤ 511) {A : AS} {h : Mh} {P : Out → Mh → Prop} {s p : Int} (I : Inv c A) (R : RC A h) (M : RM A h) (k4 : Kd h 4 = 23) (l4 : Ln h 4 = 1) (H : ∀ h', RC A h' → RM A h' → Kd h' 4 = 23 → Ln h' 4 = 1 → (th_place A s p = 0 → Mi h' 4 0 = (rs_stored A s p)) → P (.inl (some (pI (th_place A s p)))) h') : Ct kW_stored d [pR (some 2), pI s, pI p, pR (some 4)] h P := by
  refine wo_stored (by omega) R I.2.2.2.2.2.2.2.1 I.2.2.1 k4 l4 ?_ ?_
  · intro e
    have y := H (setI h 4 0 (rs_stored A s p)) (R.out I.Stx) M.out k4 l4 (fun _ => by rw [Mi_setI, if_pos ⟨rfl, rfl⟩])
    rw [e] at y; exact y
  · intro e
    have y := H h R M k4 l4 (fun z => by omega)
    rw [e] at y; exact y
theorem ww_isCurrent {d : Nat} (hd : 25 ≤ d) {c : Int} (hc : 0 ≤ c ∧ c ≤ 511) {A : AS} {h : Mh} {P : Out → Mh → Prop} {s p : Int} (I : Inv c A) (R : RC A h) (M : RM A h) (k4 : Kd h 4 = 23) (l4 : Ln h 4 = 1) (H : ∀ h', RC A h' → RM A h' → Kd h' 4 = 23 → Ln h' 4 = 1 → (th_place A s p = 0 → ∃ r, rs_isCurrent A s p r ∧ Mi h' 4 0 = (if r = 0 then 0 else 1)) → P (.inl (some (pI (th_place A s p)))) h') : Ct kW_isCurrent d [pR (some 2), pI s, pI p, pR (some 4)] h P := by
  refine wo_isCurrent (by omega) R I.2.2.2.2.2.2.2.1 I.2.2.1 I.2.2.2.1 I.2.2.2.2.2.2.2.2.1 k4 l4 ?_ ?_
  · intro e r z1
    have y := H (setI h 4 0 (if r = 0 then 0 else 1)) (R.out I.Stx) M.out k4 l4 (fun _ => ⟨r, z1, by rw [Mi_setI, if_pos ⟨rfl, rfl⟩]⟩)
    rw [e] at y; exact y
  · intro e
    have y := H h R M k4 l4 (fun z => by omega)
    rw [e] at y; exact y
theorem ww_where {d : Nat} (hd : 25 ≤ d) {c : Int} (hc : 0 ≤ c ∧ c ≤ 511) {A : AS} {h : Mh} {P : Out → Mh → Prop} {s p : Int} (I : Inv c A) (R : RC A h) (M : RM A h) (k4 : Kd h 4 = 23) (l4 : Ln h 4 = 1) (H : ∀ h', RC A h' → RM A h' → Kd h' 4 = 23 → Ln h' 4 = 1 → (th_place A s p = 0 → ∃ r, Whr A (A 18 s p) r ∧ Mi h' 4 0 = r) → P (.inl (some (pI (th_place A s p)))) h') : Ct kW_where d [pR (some 2), pI s, pI p, pR (some 4)] h P := by
  refine wo_where (by omega) R I.2.2.2.2.2.2.2.1 I.2.2.1 k4 l4 ?_ ?_
  · intro e r z1
    have y := H (setI h 4 0 r) (R.out I.Stx) M.out k4 l4 (fun _ => ⟨r, z1, by rw [Mi_setI, if_pos ⟨rfl, rfl⟩]⟩)
    rw [e] at y; exact y
  · intro e
    have y := H h R M k4 l4 (fun z => by omega)
    rw [e] at y; exact y
theorem ww_machine {d : Nat} (hd : 25 ≤ d) {c : Int} (hc : 0 ≤ c ∧ c ≤ 511) {A : AS} {h : Mh} {P : Out → Mh → Prop} {m w : Int} (I : Inv c A) (R : RC A h) (M : RM A h) (k4 : Kd h 4 = 23) (l4 : Ln h 4 = 1) (H : ∀ h', RC A h' → RM A h' → Kd h' 4 = 23 → Ln h' 4 = 1 → (th_machine A m w = 0 → Mi h' 4 0 = (rs_machine A m w)) → P (.inl (some (pI (th_machine A m w)))) h') : Ct kW_machine d [pR (some 2), pI m, pI w, pR (some 4)] h P := by
  refine wo_machine (by omega) R I.2.2.2.2.2.2.2.1 I.2.2.1 I.2.2.2.2.1 k4 l4 ?_ ?_ ?_
  · intro e
    have y := H (setI h 4 0 (rs_machine A m w)) (R.out I.Stx) M.out k4 l4 (fun _ => by rw [Mi_setI, if_pos ⟨rfl, rfl⟩])
    rw [e] at y; exact y
  · intro e
    have y := H h R M k4 l4 (fun z => by omega)
    rw [e] at y; exact y
  · intro e
    have y := H h R M k4 l4 (fun z => by omega)
    rw [e] at y; exact y
theorem ww_count {d : Nat} (hd : 25 ≤ d) {c : Int} (hc : 0 ≤ c ∧ c ≤ 511) {A : AS} {h : Mh} {P : Out → Mh → Prop} {w : Int} (I : Inv c A) (R : RC A h) (M : RM A h) (k4 : Kd h 4 = 23) (l4 : Ln h 4 = 1) (H : ∀ h', RC A h' → RM A h' → Kd h' 4 = 23 → Ln h' 4 = 1 → (th_count w = 0 → Mi h' 4 0 = (rs_count A w)) → P (.inl (some (pI (th_count w)))) h') : Ct kW_count d [pR (some 2), pI w, pR (some 4)] h P := by
  refine wo_count (by omega) R I.2.2.2.1 I.2.2.2.2.1 k4 l4 ?_ ?_
  · intro e
    have y := H (setI h 4 0 (rs_count A w)) (R.out I.Stx) M.out k4 l4 (fun _ => by rw [Mi_setI, if_pos ⟨rfl, rfl⟩])
    rw [e] at y; exact y
  · intro e
    have y := H h R M k4 l4 (fun z => by omega)
    rw [e] at y; exact y
theorem ww_placeOf {d : Nat} (hd : 25 ≤ d) {c : Int} (hc : 0 ≤ c ∧ c ≤ 511) {A : AS} {h : Mh} {P : Out → Mh → Prop} {n : Int} (I : Inv c A) (R : RC A h) (M : RM A h) (k4 : Kd h 4 = 23) (l4 : Ln h 4 = 1) (H : ∀ h', RC A h' → RM A h' → Kd h' 4 = 23 → Ln h' 4 = 1 → (th_close A n = 0 → Mi h' 4 0 = (rs_placeOf A n)) → P (.inl (some (pI (th_close A n)))) h') : Ct kW_placeOf d [pR (some 2), pI n, pR (some 4)] h P := by
  refine wo_placeOf (by omega) R I.2.2.2.2.2.2.2.1 I.2.2.1 I.2.2.2.2.2.1 k4 l4 ?_ ?_
  · intro e
    have y := H (setI h 4 0 (rs_placeOf A n)) (R.out I.Stx) M.out k4 l4 (fun _ => by rw [Mi_setI, if_pos ⟨rfl, rfl⟩])
    rw [e] at y; exact y
  · intro e
    have y := H h R M k4 l4 (fun z => by omega)
    rw [e] at y; exact y
theorem ww_delivered {d : Nat} (hd : 25 ≤ d) {c : Int} (hc : 0 ≤ c ∧ c ≤ 511) {A : AS} {h : Mh} {P : Out → Mh → Prop} {k p : Int} (I : Inv c A) (R : RC A h) (M : RM A h) (k4 : Kd h 4 = 23) (l4 : Ln h 4 = 1) (H : ∀ h', RC A h' → RM A h' → Kd h' 4 = 23 → Ln h' 4 = 1 → (th_delivered A k p = 0 → Mi h' 4 0 = (rs_delivered A k p)) → P (.inl (some (pI (th_delivered A k p)))) h') : Ct kW_delivered d [pR (some 2), pI k, pI p, pR (some 4)] h P := by
  refine wo_delivered (by omega) R I.2.2.2.2.2.1 k4 l4 ?_ ?_ ?_
  · intro e
    have y := H (setI h 4 0 (rs_delivered A k p)) (R.out I.Stx) M.out k4 l4 (fun _ => by rw [Mi_setI, if_pos ⟨rfl, rfl⟩])
    rw [e] at y; exact y
  · intro e
    have y := H h R M k4 l4 (fun z => by omega)
    rw [e] at y; exact y
  · intro e
    have y := H h R M k4 l4 (fun z => by omega)
    rw [e] at y; exact y
